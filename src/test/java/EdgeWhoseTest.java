/** The edges of promises 25 to 31 and 42 to 61: whose it is, who is how. */
public final class EdgeWhoseTest {
    private static final String NOBODY = "beach 9 tide 9;find x at 3 worth 5;";
    private static final String THREE = "finder a at 0 pace 1 pebbles 1;finder b at 4 pace 2 pebbles 1;"
            + "finder c at 8 pace 9 pebbles 0;";

    public static void main(String[] args) {
        findersThatThereAre();
        findsThatThereAre();
        oneAndItself();
        goneOnes();
        withoutFinders();
        withoutFinds();
        lastIsOneOrSeveral();
        whoseByEachDuel();
        leadsWithoutWhatIsKept();
        leaderOfSeveralTheFirst();
        duelOfOneAndTheSameIsNone();
        needsOfWhatIsThere();
        strewnFromNoneToSixty();
        walkFromNoneToAllCells();
        gainIsNeverBelowNought();
        safeFromNoOtherOne();
        rankedFromFirstToLast();
        rivalsOfEachPair();
        richestOfSeveralTheFirst();
        leftFromNoneToAll();
        tideInNoneToNinetyNineDays();
        openOfWhatIsNobodys();
        farthestOfSeveralTheFirst();
        timeFromAllToNone();
        tallyOfEachFinder();
        busiestOfSeveralTheFirst();
        bothSeeUpToSoManyCells();
        latestFromMinuteNought();
        behindByNone();
        aloneOnAFind();
        partFromFirstToLast();
        crowdInOneToFortyCells();
        liesFromFirstToLast();
        Check.end();
    }

    private static LastPebble on(String text) {
        return Check.on("beach 9 tide 9;" + text);
    }

    private static void findersThatThereAre() {
        Edge.between("leads(n)", Edge::full, (x, n) -> x.leads(n), 0, 2);
        Edge.between("needs(n)", Edge::full, (x, n) -> x.needs(n), 0, 2);
        Edge.between("strewn(n)", Edge::full, (x, n) -> x.strewn(n), 0, 2);
        Edge.between("walk(n, 0)", Edge::full, (x, n) -> x.walk(n, 0), 0, 2);
        Edge.outside("gain(n, 0)", Edge::full, (x, n) -> x.gain(n, 0), 0, 2);
        Edge.between("safe(n)", Edge::full, (x, n) -> x.safe(n), 0, 2);
        Edge.between("rivals(n, 1)", Edge::full, (x, n) -> x.rivals(n, 1), 0, 2);
        Edge.between("rivals(1, n)", Edge::full, (x, n) -> x.rivals(1, n), 0, 2);
        Edge.between("farthest(n)", Edge::full, (x, n) -> x.farthest(n), 0, 2);
        Edge.between("time(n)", Edge::full, (x, n) -> x.time(n), 0, 2);
        Edge.between("tally(0, n)", Edge::full, (x, n) -> x.tally(0, n), 0, 2);
        Edge.between("both(n, 1, 9)", Edge::full, (x, n) -> x.both(n, 1, 9), 0, 2);
        Edge.between("both(1, n, 9)", Edge::full, (x, n) -> x.both(1, n, 9), 0, 2);
        Edge.between("behind(n)", Edge::full, (x, n) -> x.behind(n), 0, 2);
        Edge.outside("lies(n, 0)", Edge::full, (x, n) -> x.lies(n, 0), 0, 2);
    }

    private static void findsThatThereAre() {
        Edge.between("last(n)", Edge::full, (x, n) -> x.last(n), 0, 2);
        Edge.between("whose(n)", Edge::full, (x, n) -> x.whose(n), 0, 2);
        Edge.between("walk(0, n)", Edge::full, (x, n) -> x.walk(0, n), 0, 2);
        Edge.between("gain(0, n)", Edge::full, (x, n) -> x.gain(0, n), 0, 2);
        Edge.outside("left(n)", Edge::full, (x, n) -> x.left(n), 0, 2);
        Edge.between("tally(n, 0)", Edge::full, (x, n) -> x.tally(n, 0), 0, 2);
        Edge.outside("part(n, 0)", Edge::full, (x, n) -> x.part(n, 0), 0, 2);
    }

    private static void oneAndItself() {
        for (int f = 0; f < 3; f++) {
            int one = f;
            Edge.refuses("rivals of one and itself", Edge::full, x -> x.rivals(one, one), 1);
            Edge.refuses("both of one and itself", Edge::full, x -> x.both(one, one, 9), 1);
        }
        Edge.refuses("rivals(3, 3)", Edge::full, x -> x.rivals(3, 3), 1);
    }

    /** What is refused behind the tide, and what is answered. */
    private static void goneOnes() {
        Edge.refuses("last(1)", Edge::gone, x -> x.last(1), 7);
        Edge.refuses("whose(1)", Edge::gone, x -> x.whose(1), 7);
        Edge.refuses("gain(0, 0)", Edge::gone, x -> x.gain(0, 0), 7);
        Edge.refuses("richest()", Edge::gone, x -> x.richest(), 6);
        Edge.refuses("left(1)", Edge::gone, x -> x.left(1), 7);
        Edge.refuses("farthest(0)", Edge::gone, x -> x.farthest(0), 6);
        Edge.refuses("latest()", Edge::gone, x -> x.latest(), 6);
        Edge.refuses("part(1, 0)", Edge::gone, x -> x.part(1, 0), 7);
        Edge.refuses("part(1, 9)", Edge::gone, x -> x.part(1, 9), 7);
        Edge.refuses("lies(0, 0)", Edge::gone, x -> x.lies(0, 0), 6);
        Edge.refuses("last(3)", Edge::gone, x -> x.last(3), 1);
        Edge.refuses("part(3, 0)", Edge::gone, x -> x.part(3, 0), 1);
        Edge.refuses("left(3)", Edge::gone, x -> x.left(3), 1);
        Edge.refuses("farthest(3)", Edge::gone, x -> x.farthest(3), 1);
        LastPebble x = Edge.gone();
        long[] got = {x.leads(0), x.leader(), x.duels(), x.needs(0), x.strewn(0), x.safe(0), x.ranked(2),
            x.rivals(0, 1), x.tideIn(0), x.open(), x.time(0), x.tally(1, 0), x.busiest(), x.both(0, 1, 40), x.behind(2),
            x.alone(), x.crowd(1), x.walk(0, 2)};
        long[] due = {0, 0, 0, 0, 0, 0, 2, 0, 26, 0, 26, 0, 0, 0, 0, 0, 2, 11};
        for (int i = 0; i < due.length; i++) {
            Check.due("answer " + i + " behind the tide", got[i], due[i]);
        }
        x.dawn();
        Check.told(x, "last(1) behind the dawn", x.last(1), 0);
        Check.told(x, "whose(1) behind the dawn", x.whose(1), 0);
        Check.told(x, "farthest(0) behind the dawn", x.farthest(0), 2);
        Check.refused(x, "left(1) behind the dawn", x.left(1), 6);
        Check.refused(x, "part(1, 0) behind the dawn", x.part(1, 0), 6);
    }

    private static void withoutFinders() {
        Edge.refuses("leader()", Edge.on(NOBODY), x -> x.leader(), 6);
        Edge.refuses("ranked(0)", Edge.on(NOBODY), x -> x.ranked(0), 6);
        Edge.refuses("busiest()", Edge.on(NOBODY), x -> x.busiest(), 6);
        Edge.refuses("latest()", Edge.on(NOBODY), x -> x.latest(), 6);
        Edge.refuses("left(0)", Edge.on(NOBODY), x -> x.left(0), 6);
        Edge.refuses("part(0, 0)", Edge.on(NOBODY), x -> x.part(0, 0), 6);
        Edge.refuses("leads(0)", Edge.on(NOBODY), x -> x.leads(0), 1);
        Edge.refuses("behind(0)", Edge.on(NOBODY), x -> x.behind(0), 1);
        Edge.refuses("farthest(0)", Edge.on(NOBODY), x -> x.farthest(0), 1);
        Edge.refuses("tally(0, 0)", Edge.on(NOBODY), x -> x.tally(0, 0), 1);
        Edge.refuses("lies(0, 0)", Edge.on(NOBODY), x -> x.lies(0, 0), 1);
        Edge.tells("crowd(40)", Edge.on(NOBODY), x -> x.crowd(40), 0);
        Edge.tells("open()", Edge.on(NOBODY), x -> x.open(), 5);
        Edge.tells("richest()", Edge.on(NOBODY), x -> x.richest(), 0);
        Edge.tells("last(0)", Edge.on(NOBODY), x -> x.last(0), 0);
        Edge.tells("whose(0)", Edge.on(NOBODY), x -> x.whose(0), 0);
    }

    private static void withoutFinds() {
        String none = "beach 9 tide 9;" + THREE;
        Edge.refuses("last(0)", Edge.on(none), x -> x.last(0), 1);
        Edge.refuses("walk(0, 0)", Edge.on(none), x -> x.walk(0, 0), 1);
        Edge.refuses("gain(0, 0)", Edge.on(none), x -> x.gain(0, 0), 1);
        Edge.refuses("richest()", Edge.on(none), x -> x.richest(), 6);
        Edge.refuses("farthest(0)", Edge.on(none), x -> x.farthest(0), 6);
        Edge.refuses("latest()", Edge.on(none), x -> x.latest(), 6);
        Edge.refuses("lies(0, 0)", Edge.on(none), x -> x.lies(0, 0), 6);
        Edge.tells("leads(0)", Edge.on(none), x -> x.leads(0), 0);
        Edge.tells("leader()", Edge.on(none), x -> x.leader(), 0);
        Edge.tells("ranked(2)", Edge.on(none), x -> x.ranked(2), 2);
        Edge.tells("needs(0)", Edge.on(none), x -> x.needs(0), 0);
        Edge.tells("busiest()", Edge.on(none), x -> x.busiest(), 0);
        Edge.tells("duels()", Edge.on(none), x -> x.duels(), 0);
        Edge.tells("alone()", Edge.on(none), x -> x.alone(), 0);
        Edge.tells("open()", Edge.on(none), x -> x.open(), 0);
        Edge.tells("safe(0)", Edge.on(none), x -> x.safe(0), 0);
        Edge.tells("both(0, 1, 40)", Edge.on(none), x -> x.both(0, 1, 40), 0);
        Edge.tells("rivals(0, 1)", Edge.on(none), x -> x.rivals(0, 1), 0);
        Edge.tells("behind(2)", Edge.on(none), x -> x.behind(2), 0);
    }

    private static void lastIsOneOrSeveral() {
        String find = THREE + "find x at 0 worth 9;";
        Check.told(on(find), "last(0) without", on(find).last(0), 0);
        String[] pebbles = {"pebble of c on x at 0;", "pebble of a on x at 0;", "pebble of b on x at 0;",
            "pebble of b on x at 1;", "pebble of a on x at 1;", "pebble of a on x at 9;"};
        int[] last = {4, 5, 7, 2, 3, 1};
        String text = find;
        for (int i = 0; i < pebbles.length; i++) {
            text += pebbles[i];
            Check.due("last(0) of " + text, on(text).last(0), last[i]);
        }
    }

    private static void whoseByEachDuel() {
        String[] laws = {"", "duel none;", "duel first;", "duel last;", "duel share;"};
        int[] ofTwo = {2, 0, 2, 4, 6};
        int[] ofAll = {1, 0, 1, 4, 7};
        for (int i = 0; i < laws.length; i++) {
            String text = laws[i] + THREE + "find x at 0 worth 9;";
            Check.due("whose(0) without", on(text).whose(0), 0);
            text += "pebble of c on x at 3;";
            Check.due("whose(0) of one", on(text).whose(0), 4);
            text += "pebble of c on x at 3;";
            Check.due("whose(0) of one and the same", on(text).whose(0), 4);
            text += "pebble of b on x at 3;";
            Check.due("whose(0) of two with " + laws[i], on(text).whose(0), ofTwo[i]);
            text += "pebble of a on x at 3;";
            Check.due("whose(0) of all with " + laws[i], on(text).whose(0), ofAll[i]);
            text += "pebble of b on x at 4;";
            Check.due("whose(0) of the later one", on(text).whose(0), 2);
        }
        // The first and the last of as many as there may be.
        int[] ofSix = {1, 0, 1, 32, 33};
        for (int i = 0; i < laws.length; i++) {
            String text = laws[i] + "find x at 0 worth 9;";
            for (char c = 'a'; c < 'g'; c++) {
                text += "finder " + c + " at 0 pace 1 pebbles 0;";
            }
            LastPebble x = on(text + "pebble of f on x at 3;pebble of a on x at 3;pebble of c on x at 2;");
            Check.told(x, "last(0) of the first and the last", x.last(0), 33);
            Check.told(x, "whose(0) of the first and the last with " + laws[i], x.whose(0), ofSix[i]);
            Check.told(x, "leads(5)", x.leads(5), i == 3 ? 9 : i == 4 ? 4 : 0);
        }
    }

    private static void leadsWithoutWhatIsKept() {
        LastPebble x = Edge.full();
        int[] due = {23, 3, 0};
        for (int f = 0; f < 3; f++) {
            Check.told(x, "leads(" + f + ")", x.leads(f), due[f]);
        }
        x.tide();
        x.dawn();
        Check.told(x, "leads(0) behind the dawn", x.leads(0), 0);
        x.go(0, 4);
        x.set(0, 0);
        Check.told(x, "leads(0)", x.leads(0), 10);
        StringBuilder most = new StringBuilder("finder a at 0 pace 1 pebbles 0;");
        for (char c = 'p'; c < 'x'; c++) {
            most.append("find ").append(c).append(" at 0 worth 999;pebble of a on ").append(c).append(" at 9;");
        }
        Check.due("leads(0) by all", on(most.toString()).leads(0), 7992);
    }

    private static void leaderOfSeveralTheFirst() {
        String finds = THREE + "find x at 0 worth 5;find y at 0 worth 5;find z at 0 worth 6;";
        Check.due("leader() of nobody leading", on(finds).leader(), 0);
        Check.due("leader()", on(finds + "pebble of c on x at 1;pebble of b on y at 1;").leader(), 1);
        Check.due("leader()", on(finds + "pebble of c on z at 1;pebble of b on y at 1;").leader(), 2);
        Check.due("leader()", on(finds + "pebble of c on x at 1;pebble of a on y at 1;").leader(), 0);
    }

    private static void duelOfOneAndTheSameIsNone() {
        String finds = THREE + "find x at 0 worth 5;find y at 0 worth 5;";
        Check.due("duels()", on(finds).duels(), 0);
        Check.due("duels()", on(finds + "pebble of a on x at 1;pebble of a on x at 1;").duels(), 0);
        Check.due("duels()", on(finds + "pebble of a on x at 1;pebble of b on x at 2;").duels(), 0);
        Check.due("duels()", on(finds + "pebble of a on x at 1;pebble of b on x at 1;").duels(), 1);
        Check.due("duels()", on(finds + "pebble of a on y at 9;pebble of a on y at 9;pebble of c on y at 9;").duels(),
                2);
        Check.due("duels()", on(finds + "duel none;pebble of a on y at 0;pebble of b on y at 0;pebble of b on x at 9;"
                + "pebble of c on x at 9;").duels(), 3);
    }

    private static void needsOfWhatIsThere() {
        String text = THREE + "find x at 0 worth 5;find y at 0 worth 5;find z at 0 worth 6;pebble of a on x at 1;"
                + "pebble of a on y at 1;pebble of b on y at 1;";
        int[] due = {2, 3, 3};
        for (int f = 0; f < 3; f++) {
            Check.due("needs(" + f + ")", on(text).needs(f), due[f]);
        }
        Check.due("needs(0) of none", on(text + "pebble of a on y at 2;pebble of a on z at 0;").needs(0), 0);
    }

    private static void strewnFromNoneToSixty() {
        String one = "finder a at 0 pace 1 pebbles 20;finder b at 0 pace 1 pebbles 1;find x at 0 worth 1;"
                + "find y at 0 worth 1;";
        LastPebble x = on(one + "pebble of a on x at 9;".repeat(30));
        Check.told(x, "strewn(1)", x.strewn(1), 0);
        Check.told(x, "strewn(0)", x.strewn(0), 30);
        for (int i = 0; i < 20; i++) {
            x.set(0, 1);
        }
        Check.told(x, "strewn(0)", x.strewn(0), 50);
        Check.told(x, "tally(0, 0)", x.tally(0, 0), 30);
        Check.told(x, "tally(1, 0)", x.tally(1, 0), 20);
        x.wave(1);
        Check.told(x, "strewn(0)", x.strewn(0), 0);
    }

    private static void walkFromNoneToAllCells() {
        String ends = "beach 40 tide 1;finder a at 0 pace 9 pebbles 0;finder b at 39 pace 1 pebbles 0;"
                + "find x at 0 worth 1;find y at 39 worth 1;";
        int[][] due = {{0, 351}, {39, 0}};
        for (int f = 0; f < 2; f++) {
            for (int find = 0; find < 2; find++) {
                LastPebble x = Check.on(ends);
                Check.told(x, "walk(" + f + ", " + find + ")", x.walk(f, find), due[f][find]);
                x.tide();
                Check.told(x, "walk(" + f + ", " + find + ")", x.walk(f, find), due[f][find]);
            }
        }
    }

    private static void gainIsNeverBelowNought() {
        String text = THREE + "find x at 3 worth 7;pebble of b on x at 4;";
        Check.due("gain(0, 0)", on(text).gain(0, 0), 7);
        Check.due("gain(1, 0) of what it has", on(text).gain(1, 0), 0);
        // The one that b has there is later than its soonest, and later than all others'.
        Check.due("gain(1, 0) of what it has", on(text + "pebble of a on x at 3;pebble of b on x at 9;").gain(1, 0), 0);
        String duel = text + "pebble of a on x at 4;";
        String[] laws = {"duel none;", "duel first;", "duel last;", "duel share;"};
        int[] ofA = {7, 0, 7, 4};
        int[] ofB = {7, 7, 0, 4};
        for (int i = 0; i < 4; i++) {
            Check.due("gain(0, 0) with " + laws[i], on(laws[i] + duel).gain(0, 0), ofA[i]);
            Check.due("gain(1, 0) with " + laws[i], on(laws[i] + duel).gain(1, 0), ofB[i]);
        }
        Edge.refuses("gain(2, 0) without PEBBLES", Edge::full, x -> x.gain(2, 0), 7);
        String late = "beach 9 tide 9;" + THREE + "find x at 8 worth 7;pebble of a on x at 9;pebble of b on x at 8;";
        Edge.tells("gain(0, 0) at the TIDE's minute", Edge.on(late), x -> x.gain(0, 0), 0);
        Edge.refuses("gain(1, 0) behind the TIDE's minute", Edge.on(late), x -> x.gain(1, 0), 7);
    }

    private static void safeFromNoOtherOne() {
        String text = THREE + "find x at 0 worth 7;find y at 8 worth 1;";
        Check.due("safe(0) of none", on(text).safe(0), 0);
        Check.due("safe(0), b comes", on(text + "pebble of a on x at 7;").safe(0), 0);
        Check.due("safe(0), b comes", on(text + "pebble of a on x at 8;").safe(0), 0);
        Check.due("safe(0), nobody comes", on(text + "pebble of a on x at 9;").safe(0), 1);
        Check.due("safe(2) without PEBBLES", on(text + "pebble of c on y at 9;").safe(2), 2);
        Check.due("safe(0) of a DUEL", on(text + "pebble of a on x at 9;pebble of b on x at 9;").safe(0), 0);
        Check.due("safe(0) of two", on(text + "pebble of a on x at 9;pebble of a on y at 9;").safe(0), 3);
    }

    private static void rankedFromFirstToLast() {
        for (int k : new int[] {-1, 3, Integer.MIN_VALUE, Integer.MAX_VALUE}) {
            Edge.refuses("ranked(" + k + ")", Edge::full, x -> x.ranked(k), 6);
        }
        String finds = THREE + "find x at 0 worth 5;find y at 0 worth 5;";
        String[] pebbles = {"", "pebble of c on x at 0;", "pebble of b on x at 0;pebble of c on y at 0;"};
        int[][] due = {{0, 1, 2}, {2, 0, 1}, {1, 2, 0}};
        for (int i = 0; i < 3; i++) {
            for (int k = 0; k < 3; k++) {
                Check.due("ranked(" + k + ") of " + pebbles[i], on(finds + pebbles[i]).ranked(k), due[i][k]);
            }
        }
    }

    private static void rivalsOfEachPair() {
        LastPebble x = on(THREE + "find x at 0 worth 5;find y at 0 worth 5;find z at 0 worth 5;pebble of a on x at 0;"
                + "pebble of b on x at 9;pebble of a on z at 0;pebble of b on z at 0;pebble of c on z at 0;"
                + "pebble of c on y at 3;");
        int[][] pairs = {{0, 1, 5}, {1, 0, 5}, {0, 2, 4}, {2, 1, 4}};
        for (int[] pair : pairs) {
            Check.told(x, "rivals(" + pair[0] + ", " + pair[1] + ")", x.rivals(pair[0], pair[1]), pair[2]);
        }
    }

    private static void richestOfSeveralTheFirst() {
        Check.due("richest()", on("find x at 0 worth 0;").richest(), 0);
        Check.due("richest()", on("find x at 0 worth 998;find y at 0 worth 999;find z at 0 worth 999;").richest(), 1);
        Check.due("richest()", on("find x at 0 worth 1;find y at 0 worth 0;find z at 0 worth 1;").richest(), 0);
    }

    private static void leftFromNoneToAll() {
        for (int minute = 0; minute <= 9; minute += 3) {
            String text = THREE + "find x at 0 worth 5;pebble of a on x at 0;pebble of b on x at " + minute + ";";
            Check.due("left(0) from " + minute, on(text).left(0), 9 - minute);
        }
        Check.due("left(0) of a day", Check.on("beach 2 tide 240;finder a at 0 pace 1 pebbles 0;find x at 0 worth 1;"
                + "pebble of a on x at 0;").left(0), 240);
    }

    private static void tideInNoneToNinetyNineDays() {
        Edge.between("tideIn(n)", Edge::full, (x, n) -> x.tideIn(n), 0, 99);
        Edge.between("tideIn(n) of a new object", Edge::fresh, (x, n) -> x.tideIn(n), 0, 99);
        LastPebble x = Check.on("beach 2 tide 100 moon 1;find x at 0 worth 1;");
        int[][] due = {{0, 100}, {1, 99}, {98, 2}, {99, 1}};
        for (int[] days : due) {
            Check.told(x, "tideIn(" + days[0] + ")", x.tideIn(days[0]), days[1]);
        }
        x.tide();
        Check.told(x, "tideIn(0)", x.tideIn(0), 99);
        Check.told(x, "tideIn(98)", x.tideIn(98), 1);
        Check.told(x, "tideIn(99)", x.tideIn(99), 1);
        LastPebble most = Check.on("beach 2 tide 240 moon 60;");
        int[] minutes = {240, 180, 120, 60, 1, 1};
        for (int days = 0; days < minutes.length; days++) {
            Check.told(most, "tideIn(" + days + ")", most.tideIn(days), minutes[days]);
        }
        Check.told(most, "tideIn(99)", most.tideIn(99), 1);
    }

    private static void openOfWhatIsNobodys() {
        String text = THREE + "find x at 0 worth 5;find y at 0 worth 999;pebble of a on x at 0;pebble of b on x at 0;";
        String[] laws = {"duel none;", "duel first;", "duel last;", "duel share;"};
        int[] due = {1004, 999, 999, 999};
        for (int i = 0; i < 4; i++) {
            Check.due("open() with " + laws[i], on(laws[i] + text).open(), due[i]);
        }
        Check.due("open() of none", on(text + "pebble of c on y at 0;").open(), 0);
    }

    private static void farthestOfSeveralTheFirst() {
        String five = "finder a at 4 pace 9 pebbles 0;";
        Check.due("farthest(0)", on(five + "find x at 4 worth 1;").farthest(0), 0);
        Check.due("farthest(0)", on(five + "find x at 3 worth 1;find y at 5 worth 1;").farthest(0), 0);
        Check.due("farthest(0)", on(five + "find x at 5 worth 1;find y at 3 worth 1;find z at 4 worth 1;").farthest(0),
                0);
        Check.due("farthest(0)", on(five + "find x at 5 worth 1;find y at 0 worth 1;find z at 8 worth 1;").farthest(0),
                1);
    }

    private static void timeFromAllToNone() {
        LastPebble x = on(THREE);
        Check.told(x, "time(0)", x.time(0), 9);
        x.pass(0, 8);
        Check.told(x, "time(0)", x.time(0), 1);
        x.pass(0, 1);
        Check.told(x, "time(0)", x.time(0), 0);
        Check.told(x, "time(1)", x.time(1), 9);
    }

    private static void tallyOfEachFinder() {
        LastPebble x = on(THREE + "find x at 0 worth 1;find y at 0 worth 1;pebble of b on x at 3;pebble of a on x at 4;"
                + "pebble of b on x at 3;pebble of b on y at 9;");
        int[][] due = {{1, 2, 0}, {0, 1, 0}};
        for (int find = 0; find < 2; find++) {
            for (int f = 0; f < 3; f++) {
                Check.told(x, "tally(" + find + ", " + f + ")", x.tally(find, f), due[find][f]);
            }
        }
    }

    private static void busiestOfSeveralTheFirst() {
        String finds = THREE + "find x at 0 worth 1;find y at 0 worth 1;";
        Check.due("busiest() without PEBBLES", on(finds).busiest(), 0);
        Check.due("busiest()", on(finds + "pebble of c on x at 0;").busiest(), 2);
        Check.due("busiest()", on(finds + "pebble of c on x at 0;pebble of b on y at 0;").busiest(), 1);
        Check.due("busiest()", on(finds + "pebble of c on x at 0;pebble of b on y at 0;pebble of c on y at 9;")
                .busiest(), 2);
    }

    private static void bothSeeUpToSoManyCells() {
        Edge.between("both(0, 1, n)", Edge::full, (x, n) -> x.both(0, 1, n), 0, 40);
        String text = THREE + "find x at 2 worth 1;find y at 0 worth 1;find z at 4 worth 1;";
        int[] due = {0, 0, 1, 1, 7};
        for (int cells = 0; cells < due.length; cells++) {
            Check.due("both(0, 1, " + cells + ")", on(text).both(0, 1, cells), due[cells]);
        }
        Check.due("both(2, 0, 8)", on(text).both(2, 0, 8), 7);
        Check.due("both(2, 0, 7)", on(text).both(2, 0, 7), 5);
    }

    private static void latestFromMinuteNought() {
        String finds = THREE + "find x at 0 worth 1;find y at 0 worth 1;";
        Check.due("latest()", on(finds + "pebble of c on y at 0;").latest(), 0);
        Check.due("latest()", on(finds + "pebble of c on x at 9;pebble of c on y at 8;").latest(), 9);
        Check.due("latest()", on(finds + "pebble of c on x at 7;pebble of c on y at 8;").latest(), 8);
    }

    private static void behindByNone() {
        String finds = "duel share;" + THREE + "find x at 0 worth 7;find y at 0 worth 4;pebble of b on x at 3;"
                + "pebble of c on y at 0;";
        int[] due = {7, 0, 3};
        for (int f = 0; f < 3; f++) {
            Check.due("behind(" + f + ")", on(finds).behind(f), due[f]);
            Check.due("behind(" + f + ") of nobody leading", on(THREE).behind(f), 0);
        }
        Check.due("behind(1) of two that lead", on(finds + "find z at 0 worth 3;pebble of c on z at 0;").behind(1), 0);
        Check.due("behind(2) of two that lead", on(finds + "find z at 0 worth 3;pebble of c on z at 0;").behind(2), 0);
    }

    private static void aloneOnAFind() {
        String finds = THREE + "find x at 0 worth 7;find y at 0 worth 4;find z at 0 worth 4;pebble of b on x at 3;"
                + "pebble of b on x at 9;pebble of c on z at 0;";
        Check.due("alone()", on(finds).alone(), 5);
        Check.due("alone()", on(finds + "pebble of a on x at 0;").alone(), 4);
        Check.due("alone()", on(finds + "pebble of a on z at 0;pebble of a on y at 0;").alone(), 3);
    }

    private static void partFromFirstToLast() {
        for (int k : new int[] {-1, 2, Integer.MIN_VALUE, Integer.MAX_VALUE}) {
            Edge.refuses("part(1, " + k + ")", Edge::full, x -> x.part(1, k), 6);
        }
        Edge.tells("part(1, 0)", Edge::full, x -> x.part(1, 0), 3);
        Edge.tells("part(1, 1)", Edge::full, x -> x.part(1, 1), 3);
        Edge.tells("part(2, 0)", Edge::full, x -> x.part(2, 0), 20);
        Edge.refuses("part(2, 1)", Edge::full, x -> x.part(2, 1), 6);
        Edge.refuses("part(0, 0) without PEBBLES", Edge::full, x -> x.part(0, 0), 6);
        String[] laws = {"duel none;", "duel first;", "duel last;", "duel share;"};
        int[][] due = {{0, 0}, {999, 0}, {0, 999}, {499, 499}};
        for (int i = 0; i < 4; i++) {
            LastPebble x = on(laws[i] + THREE + "find x at 0 worth 999;pebble of c on x at 3;pebble of b on x at 3;");
            Check.told(x, "part(0, 0) with " + laws[i], x.part(0, 0), due[i][0]);
            Check.told(x, "part(0, 1) with " + laws[i], x.part(0, 1), due[i][1]);
        }
    }

    private static void crowdInOneToFortyCells() {
        Edge.between("crowd(n)", Edge::full, (x, n) -> x.crowd(n), 1, 40);
        Edge.between("crowd(n) on two CELLS", Edge::fresh, (x, n) -> x.crowd(n), 1, 40);
        int[] due = {0, 1, 1, 1, 1, 2, 2, 2, 2, 3, 3};
        for (int cells = 1; cells < due.length; cells++) {
            Check.due("crowd(" + cells + ")", on(THREE).crowd(cells), due[cells]);
        }
        String ends = "finder a at 0 pace 1 pebbles 0;finder b at 39 pace 1 pebbles 0;finder c at 39 pace 1 pebbles 0;";
        Check.due("crowd(1)", Check.on("beach 40 tide 9;" + ends).crowd(1), 2);
        Check.due("crowd(39)", Check.on("beach 40 tide 9;" + ends).crowd(39), 2);
        Check.due("crowd(40)", Check.on("beach 40 tide 9;" + ends).crowd(40), 3);
    }

    private static void liesFromFirstToLast() {
        for (int k : new int[] {-1, 2, Integer.MIN_VALUE, Integer.MAX_VALUE}) {
            Edge.refuses("lies(0, " + k + ")", Edge::full, x -> x.lies(0, k), 6);
            Edge.refuses("lies(3, " + k + ")", Edge::full, x -> x.lies(3, k), 1);
        }
        Edge.tells("lies(0, 0)", Edge::full, x -> x.lies(0, 0), 1);
        Edge.tells("lies(0, 1)", Edge::full, x -> x.lies(0, 1), 2);
        Edge.tells("lies(1, 0)", Edge::full, x -> x.lies(1, 0), 1);
        Edge.refuses("lies(1, 1)", Edge::full, x -> x.lies(1, 1), 6);
        Edge.refuses("lies(2, 0) of none", Edge::full, x -> x.lies(2, 0), 6);
        LastPebble x = on(THREE + "find x at 0 worth 1;find y at 0 worth 1;pebble of a on y at 0;pebble of a on x at 9;"
                + "pebble of b on x at 9;pebble of a on y at 9;");
        int[] due = {0, 1, 1};
        for (int k = 0; k < 3; k++) {
            Check.told(x, "lies(0, " + k + ")", x.lies(0, k), due[k]);
        }
        Check.refused(x, "lies(0, 3)", x.lies(0, 3), 6);
    }
}
