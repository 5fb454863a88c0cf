/** The edges of promises 32 to 41: what could be. */
public final class EdgeCouldTest {
    private static final String HEAD = "beach 20 tide 30;";
    private static final String TWO = "finder a at 5 pace 2 pebbles 1;finder b at 0 pace 1 pebbles 0;";

    public static void main(String[] args) {
        findersAndFindsThatThereAre();
        goneOnes();
        soonestByTheTidesMinute();
        soonestLaterThanAllOthers();
        soonestOfItsOwnDoesNotMatter();
        soonestWithAPebble();
        threatOfWhoeverCouldStillCome();
        bestByTheTidesMinute();
        bestWaitsIfItMust();
        bestWithThePebblesItHas();
        bestOfNone();
        bestOfSeveralTheFewest();
        bestOfSeveralTheFirst();
        bestAtFromFirstToLast();
        bestAtIsOfTheLatestRow();
        latenessOfNoneToManyMinutes();
        seenUpToSoManyCells();
        boysUpToSoManyCells();
        boysOnTheBeach();
        boysOfNoneToEight();
        oddsOfNoneToSixteenSixteenths();
        oddsOfNoneToTwelveMinutes();
        oddsAskInTheirOrder();
        gullsAskInTheirOrder();
        gullsByTheFirstNumbers();
        gullsOfNoneToSixty();
        Check.end();
    }

    private static LastPebble on(String text) {
        return Check.on(HEAD + text);
    }

    private static void findersAndFindsThatThereAre() {
        Edge.outside("soonest(n, 0)", Edge::full, (x, n) -> x.soonest(n, 0), 0, 2);
        Edge.between("soonest(0, n)", Edge::full, (x, n) -> x.soonest(0, n), 0, 2);
        Edge.between("threat(n)", Edge::full, (x, n) -> x.threat(n), 0, 2);
        Edge.between("best(n)", Edge::full, (x, n) -> x.best(n), 0, 2);
        Edge.between("lateness(n, 9)", Edge::full, (x, n) -> x.lateness(n, 9), 0, 2);
        Edge.between("seen(n, 9)", Edge::full, (x, n) -> x.seen(n, 9), 0, 2);
        Edge.outside("odds(n, 8, 0)", Edge::full, (x, n) -> Edge.flag(x.odds(n, 8, 0)), 0, 2);
        Edge.refuses("soonest(0, 0) of nothing", Edge::fresh, x -> x.soonest(0, 0), 1);
        Edge.refuses("threat(0) of nothing", Edge::fresh, x -> x.threat(0), 1);
        Edge.refuses("best(0) of nothing", Edge::fresh, x -> x.best(0), 1);
        Edge.refuses("lateness(0, 0) of nothing", Edge::fresh, x -> x.lateness(0, 0), 1);
        Edge.refuses("seen(0, 0) of nothing", Edge::fresh, x -> x.seen(0, 0), 1);
        Edge.refuses("odds(0, 8, 0) of nothing", Edge::fresh, x -> Edge.flag(x.odds(0, 8, 0)), 1);
    }

    private static void goneOnes() {
        Edge.refuses("soonest(0, 0)", Edge::gone, x -> x.soonest(0, 0), 7);
        Edge.refuses("threat(0)", Edge::gone, x -> x.threat(0), 7);
        Edge.tells("best(0)", Edge::gone, x -> x.best(0), 0);
        Edge.tells("lateness(0, 240)", Edge::gone, x -> x.lateness(0, 240), 0);
        Edge.tells("seen(0, 40)", Edge::gone, x -> x.seen(0, 40), 0);
        Edge.tells("boys(0)", Edge::gone, x -> x.boys(0), 0);
        Edge.refuses("boyAt(0, 0)", Edge::gone, x -> x.boyAt(0, 0), 6);
        Edge.refuses("odds(2, 8, 0)", Edge::gone, x -> Edge.flag(x.odds(2, 8, 0)), 7);
    }

    private static void soonestByTheTidesMinute() {
        String text = TWO + "find x at 5 worth 1;find y at 19 worth 1;find z at 0 worth 1;";
        LastPebble x = on(text);
        Check.told(x, "soonest(0, 0) where it is", x.soonest(0, 0), 0);
        Check.told(x, "soonest(0, 1)", x.soonest(0, 1), 28);
        x.pass(0, 2);
        Check.told(x, "soonest(0, 1) at the TIDE's minute", x.soonest(0, 1), 30);
        x.pass(0, 1);
        Check.refused(x, "soonest(0, 1) behind it", x.soonest(0, 1), 7);
        Check.told(x, "soonest(0, 2)", x.soonest(0, 2), 13);
        x.pass(0, 27);
        Check.told(x, "soonest(0, 0) at the TIDE's minute", x.soonest(0, 0), 30);
        Edge.refuses("soonest(0, 1)", () -> {
            LastPebble y = on(text);
            y.pass(0, 3);
            return y;
        }, y -> y.soonest(0, 1), 7);
    }

    private static void soonestLaterThanAllOthers() {
        for (int minute : new int[] {0, 7, 8, 29}) {
            String text = TWO + "find x at 9 worth 1;pebble of b on x at 0;pebble of b on x at " + minute + ";";
            Check.due("soonest(0, 0) behind " + minute, on(text).soonest(0, 0), Math.max(8, minute + 1));
        }
        Edge.refuses("soonest(0, 0) behind the TIDE's", Edge.on(HEAD + TWO + "find x at 9 worth 1;"
                + "pebble of b on x at 30;"), x -> x.soonest(0, 0), 7);
    }

    private static void soonestOfItsOwnDoesNotMatter() {
        String text = TWO + "find x at 9 worth 1;pebble of a on x at 30;pebble of a on x at 20;";
        Check.due("soonest(0, 0) of its own", on(text).soonest(0, 0), 8);
        Check.due("soonest(0, 0) of a DUEL", on(text + "pebble of b on x at 20;").soonest(0, 0), 21);
        Check.due("soonest(0, 0) of a DUEL", on(text + "pebble of b on x at 29;").soonest(0, 0), 30);
        Check.due("soonest(0, 0) of a DUEL", on(text + "pebble of b on x at 30;").soonest(0, 0), -1);
    }

    private static void soonestWithAPebble() {
        LastPebble x = on(TWO + "find x at 5 worth 1;");
        Check.refused(x, "soonest(1, 0)", x.soonest(1, 0), 7);
        Check.told(x, "soonest(0, 0)", x.soonest(0, 0), 0);
        x.set(0, 0);
        Check.refused(x, "soonest(0, 0) without one left", x.soonest(0, 0), 7);
        Edge.refuses("soonest(2, 1) without one", Edge::full, y -> y.soonest(2, 1), 7);
    }

    private static void threatOfWhoeverCouldStillCome() {
        String text = TWO + "finder c at 19 pace 1 pebbles 20;find x at 5 worth 1;find y at 19 worth 1;";
        Check.due("threat(0)", on(text).threat(0), 5);
        Check.due("threat(1)", on(text).threat(1), 5);
        LastPebble x = on(text + "pebble of c on x at 29;pebble of b on y at 27;");
        Check.told(x, "threat(0)", x.threat(0), 5);
        Check.told(x, "threat(1)", x.threat(1), 5);
        x.pass(0, 2);
        Check.told(x, "threat(1) at the TIDE's minute", x.threat(1), 5);
        x.pass(0, 1);
        Check.told(x, "threat(1) behind it", x.threat(1), 4);
        Check.told(x, "threat(0)", x.threat(0), 5);
        Check.due("threat(0) of itself alone", on(text + "pebble of c on x at 30;").threat(0), 4);
        Check.due("threat(0) of nobody", on(text + "pebble of b on x at 30;").threat(0), 0);
    }

    private static void row(String text, int worth, int... finds) {
        LastPebble x = on("finder a at 5 pace 1 pebbles 8;finder b at 0 pace 1 pebbles 0;" + text);
        rowOf(x, text, worth, finds);
    }

    private static void rowOf(LastPebble x, String text, int worth, int... finds) {
        Check.told(x, "best(0) of " + text, x.best(0), worth);
        for (int k = 0; k < finds.length; k++) {
            Check.told(x, "bestAt(" + k + ") of " + text, x.bestAt(k), finds[k]);
        }
        Check.refused(x, "bestAt(" + finds.length + ") of " + text, x.bestAt(finds.length), 6);
    }

    /** The same text with the finder's CLOCK set forward. */
    private static void rowAt(int clock, String text, int worth, int... finds) {
        LastPebble x = on("finder a at 5 pace 1 pebbles 8;finder b at 0 pace 1 pebbles 0;" + text);
        x.pass(0, clock);
        rowOf(x, text + " from " + clock, worth, finds);
    }

    private static void bestByTheTidesMinute() {
        String far = "find x at 19 worth 9;find y at 0 worth 1;";
        rowAt(1, far, 10, 1, 0);
        rowAt(6, far, 10, 1, 0);
        rowAt(7, far, 9, 0);
        rowAt(16, far, 9, 0);
        rowAt(17, far, 1, 1);
        rowAt(25, far, 1, 1);
        rowAt(26, far, 0);
        rowAt(30, far, 0);
        rowAt(30, "find x at 5 worth 9;", 9, 0);
    }

    private static void bestWaitsIfItMust() {
        String wait = "find x at 5 worth 4;find y at 7 worth 2;pebble of b on x at ";
        row(wait + "27;", 6, 0, 1);
        row(wait + "28;", 6, 1, 0);
        row(wait + "29;", 6, 1, 0);
        row(wait + "30;", 2, 1);
        rowAt(28, wait + "27;", 6, 0, 1);
        rowAt(29, wait + "27;", 4, 0);
        rowAt(28, wait + "0;", 6, 0, 1);
        // What it has there itself is not counted.
        row("find x at 5 worth 4;pebble of a on x at 30;", 4, 0);
        row("find x at 5 worth 4;pebble of a on x at 30;pebble of b on x at 29;", 4, 0);
        row("find x at 5 worth 4;pebble of a on x at 30;pebble of b on x at 30;", 0);
    }

    private static void bestWithThePebblesItHas() {
        String finds = "find p at 5 worth 1;find q at 6 worth 2;find r at 7 worth 4;";
        int[][] rows = {{}, {2}, {1, 2}, {0, 1, 2}, {0, 1, 2}};
        int[] worths = {0, 4, 6, 7, 7};
        for (int pebbles = 0; pebbles < rows.length; pebbles++) {
            LastPebble x = on("finder a at 5 pace 1 pebbles " + pebbles + ";" + finds);
            rowOf(x, finds + " with " + pebbles, worths[pebbles], rows[pebbles]);
        }
        LastPebble x = on("finder a at 5 pace 1 pebbles 2;" + finds);
        x.set(0, 0);
        rowOf(x, "what is left to SET", 4, 2);
        x.lift(0, 0);
        rowOf(x, "what is left to SET", 6, 1, 2);
    }

    private static void bestOfNone() {
        row("", 0);
        row("find x at 5 worth 0;find y at 6 worth 0;", 0);
        rowAt(29, "find x at 7 worth 9;", 0);
        StringBuilder eight = new StringBuilder();
        for (char c = 'p'; c < 'x'; c++) {
            eight.append("find ").append(c).append(" at 5 worth 999;");
        }
        rowAt(30, eight.toString(), 7992, 0, 1, 2, 3, 4, 5, 6, 7);
    }

    private static void bestOfSeveralTheFewest() {
        row("find x at 5 worth 0;find y at 5 worth 3;", 3, 1);
        String three = "find x at 6 worth 2;find y at 7 worth 1;find z at 3 worth 3;";
        rowAt(24, three, 6, 0, 1, 2);
        rowAt(25, three, 5, 0, 2);
        rowAt(26, three, 5, 0, 2);
        rowAt(27, three, 3, 2);
        rowAt(28, three, 3, 2);
        rowAt(29, three, 2, 0);
        // One FIND worth as much, which can't be had, is no reason for fewer.
        rowAt(29, "find x at 9 worth 6;find y at 5 worth 3;find z at 6 worth 3;", 6, 1, 2);
    }

    private static void bestOfSeveralTheFirst() {
        row("find x at 5 worth 3;find y at 5 worth 3;", 6, 0, 1);
        rowAt(30, "find x at 4 worth 3;find y at 5 worth 3;find z at 5 worth 3;", 6, 1, 2);
        rowAt(29, "find x at 4 worth 3;find y at 6 worth 3;", 3, 0);
        rowAt(29, "find x at 6 worth 3;find y at 4 worth 3;", 3, 0);
        rowAt(28, "find x at 7 worth 3;find y at 6 worth 3;find z at 4 worth 3;find v at 3 worth 3;", 6, 1, 0);
        rowAt(28, "find x at 7 worth 3;find y at 4 worth 3;find z at 6 worth 3;find v at 3 worth 3;", 6, 1, 3);
    }

    private static void bestAtFromFirstToLast() {
        for (int k : new int[] {-1, 3, Integer.MIN_VALUE, Integer.MAX_VALUE}) {
            Edge.refuses("bestAt(" + k + ")", Edge::full, x -> x.bestAt(k), 6);
        }
        for (int k = 0; k < 3; k++) {
            int place = k;
            Edge.tells("bestAt(" + k + ")", Edge::full, x -> x.bestAt(place), k);
            Edge.refuses("bestAt(" + k + ") ahead of best()", Edge::fresh, x -> x.bestAt(place), 6);
        }
    }

    private static void bestAtIsOfTheLatestRow() {
        LastPebble x = Edge.full();
        Check.refused(x, "best(3)", x.best(3), 1);
        Check.refused(x, "best(-1)", x.best(-1), 1);
        x.lateness(1, 240);
        x.tide();
        x.back();
        Check.refused(x, "beach", Check.beach(x, "beach 9"), 9);
        Check.told(x, "beach", Check.beach(x, "beach 9 tide 9;finder a at 0 pace 1 pebbles 0;"), 0);
        Check.told(x, "bestAt(2)", x.bestAt(2), 2);
        Check.told(x, "best(0)", x.best(0), 0);
        Check.refused(x, "bestAt(0)", x.bestAt(0), 6);
    }

    private static void latenessOfNoneToManyMinutes() {
        Edge.between("lateness(0, n)", Edge::full, (x, n) -> x.lateness(0, n), 0, 240);
        String text = "beach 40 tide 1;finder a at 0 pace 9 pebbles 2;find x at 0 worth 1;find y at 1 worth 2;"
                + "find z at 27 worth 4;";
        int[][] due = {{0, 0}, {7, 0}, {8, 2}, {240, 2}};
        for (int[] later : due) {
            Check.due("lateness(0, " + later[0] + ")", Check.on(text).lateness(0, later[0]), later[1]);
        }
        String near = text.replace("tide 1;", "tide 3;").replace("at 27", "at 26");
        Check.due("lateness(0, 230)", Check.on(near).lateness(0, 230), 2);
        Check.due("lateness(0, 231)", Check.on(near).lateness(0, 231), 5);
        // From a TIDE by which both can just be had, and from one a minute ahead of it.
        Check.due("lateness(0, 0)", Check.on(text.replace("tide 1;", "tide 9;")).lateness(0, 0), 0);
        Check.due("lateness(0, 240)", Check.on(text.replace("tide 1;", "tide 9;")).lateness(0, 240), 3);
        Check.due("lateness(0, 0)", Check.on(text.replace("tide 1;", "tide 8;")).lateness(0, 0), 0);
        Check.due("lateness(0, 1)", Check.on(text.replace("tide 1;", "tide 8;")).lateness(0, 1), 2);
        LastPebble x = Check.on(text);
        Check.told(x, "lateness(0, 8)", x.lateness(0, 8), 2);
        Check.told(x, "the TIDE's minute", x.told(3), 1);
        x.pass(0, 1);
        Check.told(x, "lateness(0, 8)", x.lateness(0, 8), 0);
        Check.told(x, "lateness(0, 9)", x.lateness(0, 9), 2);
    }

    private static void seenUpToSoManyCells() {
        Edge.between("seen(0, n)", Edge::full, (x, n) -> x.seen(0, n), 0, 40);
        String text = "finder a at 9 pace 9 pebbles 0;find x at 9 worth 1;find y at 6 worth 1;find z at 13 worth 1;";
        int[] due = {1, 1, 1, 3, 7};
        for (int cells = 0; cells < due.length; cells++) {
            Check.due("seen(0, " + cells + ")", on(text).seen(0, cells), due[cells]);
        }
        String ends = "beach 40 tide 9;finder a at 0 pace 1 pebbles 0;find x at 39 worth 1;";
        Check.due("seen(0, 38)", Check.on(ends).seen(0, 38), 0);
        Check.due("seen(0, 39)", Check.on(ends).seen(0, 39), 1);
    }

    private static void boysUpToSoManyCells() {
        Edge.between("boys(n)", Edge::full, (x, n) -> x.boys(n), 0, 40);
        Edge.between("boys(n) of nothing", Edge::fresh, (x, n) -> x.boys(n), 0, 40);
        Edge.between("boyAt(n, 0)", Edge::full, (x, n) -> x.boyAt(n, 0), 0, 40);
        Edge.outside("boyAt(n, 9)", Edge::full, (x, n) -> x.boyAt(n, 9), 0, 40);
        String text = "find x at 2 worth 1;find y at 8 worth 1;";
        Check.due("boys(2)", on(text).boys(2), 2);
        Check.due("boyAt(2, 0)", on(text).boyAt(2, 0), 4);
        Check.due("boyAt(2, 1)", on(text).boyAt(2, 1), 10);
        Check.due("boys(3)", on(text).boys(3), 1);
        Check.due("boyAt(3, 0)", on(text).boyAt(3, 0), 5);
    }

    private static void boysOnTheBeach() {
        String text = "beach 20 tide 9;find x at 17 worth 1;find y at 15 worth 1;find z at 0 worth 1;";
        int[][] boys = {{0, 0, 15, 17}, {1, 1, 16}, {2, 2, 17}, {4, 4, 19}, {5, 5, 19}, {8, 8, 19}, {9, 9}, {19, 19},
            {40, 19}};
        for (int[] of : boys) {
            LastPebble x = Check.on(text);
            Check.told(x, "boys(" + of[0] + ")", x.boys(of[0]), of.length - 1);
            for (int k = 1; k < of.length; k++) {
                Check.told(x, "boyAt(" + of[0] + ", " + (k - 1) + ")", x.boyAt(of[0], k - 1), of[k]);
            }
            Check.refused(x, "boyAt behind the last", x.boyAt(of[0], of.length - 1), 6);
        }
        Check.due("boyAt(40, 0) of two CELLS", Check.on("beach 2 tide 9;find x at 0 worth 1;").boyAt(40, 0), 1);
    }

    private static void boysOfNoneToEight() {
        for (int k : new int[] {-1, 3, Integer.MIN_VALUE, Integer.MAX_VALUE}) {
            Edge.refuses("boyAt(0, " + k + ")", Edge::full, x -> x.boyAt(0, k), 6);
            Edge.refuses("boyAt(41, " + k + ")", Edge::full, x -> x.boyAt(41, k), 1);
        }
        Edge.refuses("boyAt(0, 0) of nothing", Edge::fresh, x -> x.boyAt(0, 0), 6);
        StringBuilder eight = new StringBuilder();
        for (int i = 0; i < 8; i++) {
            eight.append("find ").append((char) ('p' + i)).append(" at ").append(19 - i).append(" worth 1;");
        }
        LastPebble x = on(eight.toString());
        Check.told(x, "boys(0)", x.boys(0), 8);
        Check.told(x, "boyAt(0, 0)", x.boyAt(0, 0), 12);
        Check.told(x, "boyAt(0, 7)", x.boyAt(0, 7), 19);
        Check.refused(x, "boyAt(0, 8)", x.boyAt(0, 8), 6);
        LastPebble one = on(eight.toString().replaceAll("at [0-9]*", "at 3"));
        Check.told(one, "boys(0) on one CELL", one.boys(0), 1);
    }

    private static void oddsAre(LastPebble x, int find, int sixteenths, int what, long top, long bottom) {
        String call = "odds(" + find + ", " + sixteenths + ", " + what + ")";
        Check.granted(x, call, x.odds(find, sixteenths, what));
        Check.fraction(x, call, top, bottom);
    }

    private static void oddsOfNoneToSixteenSixteenths() {
        Edge.between("odds(2, n, 0)", Edge::full, (x, n) -> Edge.flag(x.odds(2, n, 0)), 0, 16);
        Edge.between("odds(2, 8, n)", Edge::full, (x, n) -> Edge.flag(x.odds(2, 8, n)), 0, 1);
        LastPebble x = Edge.full();
        oddsAre(x, 2, 0, 0, 1, 1);
        oddsAre(x, 2, 0, 1, 20, 1);
        oddsAre(x, 2, 1, 0, 225, 256);
        oddsAre(x, 2, 15, 0, 1, 256);
        oddsAre(x, 2, 15, 1, 5, 64);
        oddsAre(x, 2, 16, 0, 0, 1);
        oddsAre(x, 2, 16, 1, 0, 1);
    }

    private static void oddsOfNoneToTwelveMinutes() {
        String text = "beach 9 tide 20;finder a at 0 pace 1 pebbles 1;finder b at 0 pace 1 pebbles 1;"
                + "find x at 0 worth 999;pebble of b on x at 0;pebble of a on x at ";
        LastPebble none = Check.on(text + "20;");
        oddsAre(none, 0, 16, 0, 1, 1);
        oddsAre(none, 0, 16, 1, 999, 1);
        oddsAre(none, 0, 7, 0, 1, 1);
        LastPebble one = Check.on(text + "19;");
        oddsAre(one, 0, 7, 0, 9, 16);
        oddsAre(one, 0, 7, 1, 8991, 16);
        LastPebble twelve = Check.on(text + "8;");
        long ninth = 282429536481L;
        oddsAre(twelve, 0, 7, 0, ninth, 281474976710656L);
        oddsAre(twelve, 0, 7, 1, 999 * ninth, 281474976710656L);
        oddsAre(twelve, 0, 8, 1, 999, 4096);
        oddsAre(twelve, 0, 0, 1, 999, 1);
        oddsAre(twelve, 0, 16, 1, 0, 1);
        Edge.refuses("odds(0, 8, 0) of thirteen minutes", Edge.on(text + "7;"), x -> Edge.flag(x.odds(0, 8, 0)), 7);
        Edge.refuses("odds(0, 0, 1) of twenty minutes", Edge.on(text + "0;"), x -> Edge.flag(x.odds(0, 0, 1)), 7);
    }

    /** First 1, then 7 of what is GONE, then 6, then 7 of too many minutes. */
    private static void oddsAskInTheirOrder() {
        Edge.refuses("odds(3, 8, 0)", Edge::gone, x -> Edge.flag(x.odds(3, 8, 0)), 1);
        Edge.refuses("odds(0, 17, 0)", Edge::gone, x -> Edge.flag(x.odds(0, 17, 0)), 1);
        Edge.refuses("odds(0, -1, 0)", Edge::gone, x -> Edge.flag(x.odds(0, -1, 0)), 1);
        Edge.refuses("odds(0, 8, 2)", Edge::gone, x -> Edge.flag(x.odds(0, 8, 2)), 1);
        Edge.refuses("odds(0, 8, 0)", Edge::gone, x -> Edge.flag(x.odds(0, 8, 0)), 7);
        Edge.refuses("odds(0, 8, 0)", Edge::full, x -> Edge.flag(x.odds(0, 8, 0)), 6);
        Edge.refuses("odds(0, 8, 2)", Edge::full, x -> Edge.flag(x.odds(0, 8, 2)), 1);
        Edge.refuses("odds(1, 8, 0)", Edge::full, x -> Edge.flag(x.odds(1, 8, 0)), 7);
        Edge.refuses("odds(1, 17, 0)", Edge::full, x -> Edge.flag(x.odds(1, 17, 0)), 1);
    }

    /** Of the beach of Edge, which has 0, 2 and 1 PEBBLES on its FINDS. */
    private static LastPebble tray(boolean tide, int sort, long... numbers) {
        LastPebble x = tide ? Edge.gone() : Edge.full();
        x.tray(3, sort, numbers.length);
        for (int i = 0; i < numbers.length; i++) {
            x.write(3, i, numbers[i]);
        }
        return x;
    }

    private static void told(int gulls, long... numbers) {
        Edge.tells("gulls(3) of " + java.util.Arrays.toString(numbers), () -> tray(false, 3, numbers), x -> x.gulls(3),
                gulls);
    }

    private static void refused(int status, boolean tide, long... numbers) {
        Edge.refuses("gulls(3) of " + java.util.Arrays.toString(numbers), () -> tray(tide, 3, numbers),
                x -> x.gulls(3), status);
    }

    /** First 1, then 2, then 3, then 5, then 7: each with all behind it holding, too. */
    private static void gullsAskInTheirOrder() {
        Edge.refuses("gulls(4)", Edge::full, x -> x.gulls(4), 1);
        Edge.refuses("gulls(-1)", Edge::full, x -> x.gulls(-1), 1);
        Edge.refuses("gulls(3)", Edge::full, x -> x.gulls(3), 2);
        refused(3, false);
        refused(3, false, 61, -1);
        refused(5, false, 61, 0, 0);
        refused(5, false, 0, 0, -1);
        refused(5, true, 0, 0, 61);
        refused(7, false, 0, 0, 0);
        refused(7, false, 1, 2, 1);
        refused(7, false, 0, 2, 0);
        refused(7, true, 0, 0, 1);
        refused(7, true, 0, 2, 1);
        Edge.tells("gulls(3) behind the tide", () -> tray(true, 3, 0, 0, 0), x -> x.gulls(3), 0);
    }

    private static void gullsByTheFirstNumbers() {
        told(0, 0, 2, 1);
        told(0, 0, 2, 1, 61, -1);
        told(1, 1, 1, 1);
        told(1, 1, 2, 0);
        told(2, 1, 0, 2);
        told(3, 3, 0, 0);
        told(2, 0, 0, 3);
        told(1, 0, 3, 0);
        LastPebble none = new LastPebble();
        none.tray(0, 3, 0);
        Check.told(none, "gulls(0) without FINDS", none.gulls(0), 0);
        none.tray(0, 3, 2);
        none.write(0, 0, 99);
        Check.told(none, "gulls(0) without FINDS", none.gulls(0), 0);
    }

    private static void gullsOfNoneToSixty() {
        for (long wrong : new long[] {-1, 61, 256, 1L << 32, Long.MIN_VALUE, Long.MAX_VALUE}) {
            refused(5, false, 0, 2, wrong);
            refused(5, false, wrong, 2, 1);
        }
        refused(7, false, 60, 60, 60);
        Edge.refuses("gulls(3) of 255 as 8 bits", () -> tray(false, 0, 255, 2, 1), x -> x.gulls(3), 5);
        Edge.tells("gulls(3) of 256 as 8 bits", () -> tray(false, 0, 256, 2, 1), x -> x.gulls(3), 0);
        LastPebble x = Check.on("beach 9 tide 9;finder a at 0 pace 1 pebbles 20;finder b at 0 pace 1 pebbles 20;"
                + "find x at 0 worth 1;find y at 0 worth 1;" + "pebble of a on x at 1;".repeat(30));
        for (int i = 0; i < 30; i++) {
            x.set(i % 2, 0);
        }
        x.tray(0, 0, 2);
        x.write(0, 0, 60);
        Check.told(x, "gulls(0) of sixty", x.gulls(0), 0);
        x.write(0, 0, 0);
        x.write(0, 1, 60);
        Check.told(x, "gulls(0) of sixty on the other one", x.gulls(0), 60);
        x.write(0, 1, 61);
        Check.refused(x, "gulls(0) of sixty-one", x.gulls(0), 5);
        x.write(0, 1, 59);
        Check.refused(x, "gulls(0) of fifty-nine", x.gulls(0), 7);
    }
}
