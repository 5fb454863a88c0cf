/** Promises 25 to 31 and 42 to 61: whose it is, and who is how. */
public final class WhoseTest {
    private static final String AHEAD = "finder a at 2 pace 3 pebbles 3;finder b at 7 pace 1 pebbles 2;"
            + "finder c at 8 pace 2 pebbles 0;find x at 4 worth 10;find y at 7 worth 7;find z at 15 worth 20;"
            + "find v at 0 worth 20;pebble of c on y at 25;pebble of b on y at 25;pebble of c on y at 25;"
            + "pebble of a on y at 24;pebble of a on z at 28;pebble of a on z at 28;pebble of b on x at 3;";

    private static LastPebble under(String law) {
        return Check.on("beach 20 tide 30 moon 7;duel " + law + ";" + AHEAD);
    }

    public static void main(String[] args) {
        lastAndWhose();
        leads();
        ranks();
        counts();
        walks();
        gains();
        safety();
        richest();
        minutes();
        openAndFarthest();
        sights();
        parts();
        crowds();
        lying();
        firsts();
        nobody();
        Check.end();
    }

    private static void lastAndWhose() {
        String[] laws = {"none", "first", "last", "share"};
        int[] whoseY = {0, 2, 4, 6};
        for (int i = 0; i < 4; i++) {
            LastPebble x = under(laws[i]);
            int[] last = {2, 6, 1, 0};
            int[] whose = {2, whoseY[i], 1, 0};
            for (int f = 0; f < 4; f++) {
                Check.told(x, "last(" + f + ")", x.last(f), last[f]);
                Check.told(x, "whose(" + f + ") with " + laws[i], x.whose(f), whose[f]);
            }
            Check.told(x, "duels()", x.duels(), 2);
            Check.told(x, "open() with " + laws[i], x.open(), i == 0 ? 27 : 20);
            x.wave(16);
            Check.told(x, "last(1)", x.last(1), 0);
            Check.told(x, "duels()", x.duels(), 0);
            x.tide();
            Check.refused(x, "last(1)", x.last(1), 7);
            Check.refused(x, "whose(1)", x.whose(1), 7);
            Check.told(x, "open()", x.open(), 0);
            Check.refused(x, "last(4)", x.last(4), 1);
            Check.refused(x, "last(-1)", x.last(-1), 1);
            Check.refused(x, "whose(4)", x.whose(4), 1);
            Check.refused(x, "whose(-1)", x.whose(-1), 1);
        }
    }

    private static void leads() {
        String[] laws = {"none", "first", "last", "share"};
        int[][] lead = {{20, 10, 0}, {20, 17, 0}, {20, 10, 7}, {20, 13, 3}};
        for (int i = 0; i < 4; i++) {
            LastPebble x = under(laws[i]);
            for (int f = 0; f < 3; f++) {
                Check.told(x, "leads(" + f + ") with " + laws[i], x.leads(f), lead[i][f]);
                Check.told(x, "behind(" + f + ") with " + laws[i], x.behind(f), lead[i][0] - lead[i][f]);
            }
            Check.refused(x, "leads(3)", x.leads(3), 1);
            Check.refused(x, "leads(-1)", x.leads(-1), 1);
            Check.refused(x, "behind(3)", x.behind(3), 1);
            Check.refused(x, "behind(-1)", x.behind(-1), 1);
            x.tide();
            Check.told(x, "leads(0) behind the tide", x.leads(0), 0);
        }
    }

    private static void ranks() {
        LastPebble x = Check.on("beach 9 tide 9;finder a at 0 pace 1 pebbles 0;finder b at 0 pace 1 pebbles 0;"
                + "finder c at 0 pace 1 pebbles 0;finder d at 0 pace 1 pebbles 0;find x at 0 worth 5;"
                + "find y at 0 worth 5;find z at 0 worth 9;pebble of b on x at 1;pebble of d on y at 1;"
                + "pebble of c on z at 1;");
        int[] ranked = {2, 1, 3, 0};
        for (int k = 0; k < 4; k++) {
            Check.told(x, "ranked(" + k + ")", x.ranked(k), ranked[k]);
        }
        Check.refused(x, "ranked(4)", x.ranked(4), 6);
        Check.refused(x, "ranked(-1)", x.ranked(-1), 6);
        Check.told(x, "leader()", x.leader(), 2);
        x.gull(2, 0);
        Check.told(x, "leader()", x.leader(), 1);
        x.wave(40);
        Check.told(x, "leader()", x.leader(), 0);
        Check.told(x, "busiest()", x.busiest(), 0);
    }

    private static void counts() {
        LastPebble x = under("share");
        int[] needs = {3, 3, 4};
        int[] strewn = {3, 2, 2};
        int[][] tally = {{0, 1, 0}, {1, 1, 2}, {2, 0, 0}, {0, 0, 0}};
        for (int f = 0; f < 3; f++) {
            Check.told(x, "needs(" + f + ")", x.needs(f), needs[f]);
            Check.told(x, "strewn(" + f + ")", x.strewn(f), strewn[f]);
            for (int one = 0; one < 4; one++) {
                Check.told(x, "tally(" + one + ", " + f + ")", x.tally(one, f), tally[one][f]);
            }
        }
        Check.told(x, "busiest()", x.busiest(), 0);
        x.wave(5);
        x.gull(2, 0);
        Check.told(x, "busiest()", x.busiest(), 0);
        Check.told(x, "alone()", x.alone(), 5);
        Check.told(x, "rivals(0, 1)", x.rivals(0, 1), 2);
        Check.told(x, "rivals(2, 1)", x.rivals(2, 1), 2);
        x.gull(1, 2);
        Check.told(x, "rivals(0, 2)", x.rivals(0, 2), 6);
        Check.told(x, "alone()", x.alone(), 1);
        Check.refused(x, "rivals(0, 0)", x.rivals(0, 0), 1);
        Check.refused(x, "rivals(0, 3)", x.rivals(0, 3), 1);
        Check.refused(x, "rivals(-1, 0)", x.rivals(-1, 0), 1);
        Check.refused(x, "needs(3)", x.needs(3), 1);
        Check.refused(x, "needs(-1)", x.needs(-1), 1);
        Check.refused(x, "strewn(3)", x.strewn(3), 1);
        Check.refused(x, "strewn(-1)", x.strewn(-1), 1);
        Check.refused(x, "tally(4, 0)", x.tally(4, 0), 1);
        Check.refused(x, "tally(0, 3)", x.tally(0, 3), 1);
        Check.refused(x, "tally(-1, 0)", x.tally(-1, 0), 1);
        Check.refused(x, "tally(0, -1)", x.tally(0, -1), 1);
        x.tide();
        Check.told(x, "needs(0)", x.needs(0), 0);
        Check.told(x, "strewn(0)", x.strewn(0), 0);
        Check.told(x, "tally(0, 0)", x.tally(0, 0), 0);
        Check.told(x, "alone()", x.alone(), 0);
        Check.told(x, "rivals(0, 2)", x.rivals(0, 2), 0);
    }

    private static void walks() {
        LastPebble x = under("share");
        int[][] walk = {{6, 15, 39, 6}, {3, 0, 8, 7}, {8, 2, 14, 16}};
        for (int f = 0; f < 3; f++) {
            for (int one = 0; one < 4; one++) {
                Check.told(x, "walk(" + f + ", " + one + ")", x.walk(f, one), walk[f][one]);
            }
        }
        x.tide();
        Check.told(x, "walk(0, 2)", x.walk(0, 2), 39);
        Check.refused(x, "walk(3, 0)", x.walk(3, 0), 1);
        Check.refused(x, "walk(0, 4)", x.walk(0, 4), 1);
        Check.refused(x, "walk(-1, 0)", x.walk(-1, 0), 1);
        Check.refused(x, "walk(0, -1)", x.walk(0, -1), 1);
    }

    private static void gains() {
        LastPebble x = under("share");
        Check.told(x, "gain(0, 0)", x.gain(0, 0), 10);
        Check.told(x, "gain(0, 1)", x.gain(0, 1), 7);
        Check.refused(x, "gain(0, 2)", x.gain(0, 2), 7);
        Check.told(x, "gain(1, 0)", x.gain(1, 0), 0);
        Check.told(x, "gain(1, 1)", x.gain(1, 1), 4);
        Check.told(x, "gain(1, 2)", x.gain(1, 2), 20);
        Check.refused(x, "gain(2, 0)", x.gain(2, 0), 7);
        Check.told(under("first"), "gain(1, 1)", under("first").gain(1, 1), 0);
        Check.told(under("last"), "gain(1, 1)", under("last").gain(1, 1), 7);
        Check.refused(x, "gain(3, 0)", x.gain(3, 0), 1);
        Check.refused(x, "gain(0, 4)", x.gain(0, 4), 1);
        Check.refused(x, "gain(-1, 0)", x.gain(-1, 0), 1);
        Check.refused(x, "gain(0, -1)", x.gain(0, -1), 1);
        x.tide();
        Check.refused(x, "gain(0, 0)", x.gain(0, 0), 7);
    }

    private static void safety() {
        LastPebble x = under("share");
        Check.told(x, "safe(0)", x.safe(0), 0);
        Check.told(x, "safe(1)", x.safe(1), 0);
        x.pass(1, 23);
        Check.told(x, "safe(0)", x.safe(0), 4);
        x.pass(0, 25);
        Check.told(x, "safe(1)", x.safe(1), 1);
        Check.told(x, "safe(2)", x.safe(2), 0);
        Check.refused(x, "safe(3)", x.safe(3), 1);
        Check.refused(x, "safe(-1)", x.safe(-1), 1);
        x.tide();
        Check.told(x, "safe(0)", x.safe(0), 0);
    }

    private static void richest() {
        LastPebble x = under("share");
        Check.told(x, "richest()", x.richest(), 2);
        LastPebble y = Check.on("beach 9 tide 9;find x at 0 worth 0;find y at 0 worth 0;");
        Check.told(y, "richest()", y.richest(), 0);
        y.tide();
        Check.refused(y, "richest()", y.richest(), 6);
    }

    private static void minutes() {
        LastPebble x = under("share");
        int[] left = {27, 5, 2};
        for (int one = 0; one < 3; one++) {
            Check.told(x, "left(" + one + ")", x.left(one), left[one]);
        }
        Check.refused(x, "left(3)", x.left(3), 6);
        Check.refused(x, "left(4)", x.left(4), 1);
        Check.refused(x, "left(-1)", x.left(-1), 1);
        Check.told(x, "latest()", x.latest(), 28);
        x.pass(1, 11);
        Check.told(x, "time(1)", x.time(1), 19);
        Check.told(x, "time(0)", x.time(0), 30);
        Check.refused(x, "time(3)", x.time(3), 1);
        Check.refused(x, "time(-1)", x.time(-1), 1);
        int[] tides = {30, 23, 16, 9, 2, 1, 1};
        for (int days = 0; days < 7; days++) {
            Check.told(x, "tideIn(" + days + ")", x.tideIn(days), tides[days]);
        }
        Check.told(x, "tideIn(99)", x.tideIn(99), 1);
        Check.refused(x, "tideIn(100)", x.tideIn(100), 1);
        Check.refused(x, "tideIn(-1)", x.tideIn(-1), 1);
        x.tide();
        Check.told(x, "tideIn(1)", x.tideIn(1), 16);
        Check.refused(x, "left(0)", x.left(0), 7);
        Check.refused(x, "latest()", x.latest(), 6);
        LastPebble y = Check.on("beach 9 tide 9;finder a at 0 pace 1 pebbles 0;find x at 0 worth 0;"
                + "pebble of a on x at 0;");
        Check.told(y, "latest()", y.latest(), 0);
        Check.told(y, "left(0)", y.left(0), 9);
    }

    private static void openAndFarthest() {
        LastPebble x = under("none");
        Check.told(x, "open()", x.open(), 27);
        Check.told(x, "farthest(0)", x.farthest(0), 2);
        x.go(0, 10);
        Check.told(x, "farthest(0)", x.farthest(0), 3);
        x.tide();
        Check.refused(x, "farthest(0)", x.farthest(0), 6);
        Check.refused(x, "farthest(3)", x.farthest(3), 1);
        Check.refused(x, "farthest(-1)", x.farthest(-1), 1);
        LastPebble y = Check.on("beach 9 tide 9;finder a at 4 pace 1 pebbles 0;find x at 4 worth 0;"
                + "find y at 6 worth 0;find z at 2 worth 0;");
        Check.told(y, "farthest(0)", y.farthest(0), 1);
        LastPebble z = Check.on("beach 9 tide 9;finder a at 4 pace 1 pebbles 0;find x at 4 worth 0;");
        Check.told(z, "farthest(0)", z.farthest(0), 0);
    }

    private static void sights() {
        LastPebble x = under("share");
        Check.told(x, "seen(0, 0)", x.seen(0, 0), 0);
        Check.told(x, "seen(1, 0)", x.seen(1, 0), 2);
        Check.told(x, "seen(0, 2)", x.seen(0, 2), 9);
        Check.told(x, "seen(0, 40)", x.seen(0, 40), 15);
        Check.told(x, "both(0, 1, 3)", x.both(0, 1, 3), 1);
        Check.told(x, "both(1, 0, 5)", x.both(1, 0, 5), 3);
        Check.told(x, "both(0, 1, 40)", x.both(0, 1, 40), 15);
        Check.refused(x, "both(0, 0, 3)", x.both(0, 0, 3), 1);
        Check.refused(x, "both(0, 3, 3)", x.both(0, 3, 3), 1);
        Check.refused(x, "both(-1, 0, 3)", x.both(-1, 0, 3), 1);
        Check.refused(x, "both(0, 1, 41)", x.both(0, 1, 41), 1);
        Check.refused(x, "both(0, 1, -1)", x.both(0, 1, -1), 1);
        x.tide();
        Check.told(x, "seen(0, 40)", x.seen(0, 40), 0);
        Check.told(x, "both(0, 1, 40)", x.both(0, 1, 40), 0);
    }

    private static void parts() {
        String[] laws = {"none", "first", "last", "share"};
        int[][] part = {{0, 0}, {7, 0}, {0, 7}, {3, 3}};
        for (int i = 0; i < 4; i++) {
            LastPebble x = under(laws[i]);
            Check.told(x, "part(1, 0) with " + laws[i], x.part(1, 0), part[i][0]);
            Check.told(x, "part(1, 1) with " + laws[i], x.part(1, 1), part[i][1]);
            Check.refused(x, "part(1, 2)", x.part(1, 2), 6);
            Check.refused(x, "part(1, -1)", x.part(1, -1), 6);
            Check.told(x, "part(2, 0)", x.part(2, 0), 20);
            Check.refused(x, "part(2, 1)", x.part(2, 1), 6);
            Check.refused(x, "part(3, 0)", x.part(3, 0), 6);
            Check.refused(x, "part(4, 0)", x.part(4, 0), 1);
            Check.refused(x, "part(-1, 0)", x.part(-1, 0), 1);
            x.tide();
            Check.refused(x, "part(3, 0)", x.part(3, 0), 7);
        }
    }

    private static void crowds() {
        LastPebble x = under("share");
        Check.told(x, "crowd(1)", x.crowd(1), 1);
        Check.told(x, "crowd(2)", x.crowd(2), 2);
        Check.told(x, "crowd(6)", x.crowd(6), 2);
        Check.told(x, "crowd(7)", x.crowd(7), 3);
        Check.told(x, "crowd(40)", x.crowd(40), 3);
        Check.refused(x, "crowd(0)", x.crowd(0), 1);
        Check.refused(x, "crowd(41)", x.crowd(41), 1);
        x.go(2, 7);
        Check.told(x, "crowd(1)", x.crowd(1), 2);
    }

    private static void lying() {
        LastPebble x = under("share");
        int[] ofA = {1, 2, 2};
        for (int k = 0; k < 3; k++) {
            Check.told(x, "lies(0, " + k + ")", x.lies(0, k), ofA[k]);
        }
        Check.refused(x, "lies(0, 3)", x.lies(0, 3), 6);
        Check.refused(x, "lies(0, -1)", x.lies(0, -1), 6);
        Check.told(x, "lies(1, 0)", x.lies(1, 0), 0);
        Check.told(x, "lies(1, 1)", x.lies(1, 1), 1);
        Check.refused(x, "lies(3, 0)", x.lies(3, 0), 1);
        Check.refused(x, "lies(-1, 0)", x.lies(-1, 0), 1);
    }

    /** What is first of all, and last of six. */
    private static void firsts() {
        StringBuilder text = new StringBuilder("beach 9 tide 9;duel last;find x at 0 worth 7;find y at 1 worth 5;");
        for (char c = 'a'; c < 'g'; c++) {
            text.append("finder ").append(c).append(" at 0 pace 1 pebbles 1;");
        }
        LastPebble x = Check.on(text + "pebble of a on x at 9;pebble of f on x at 9;pebble of a on y at 9;");
        Check.told(x, "duels()", x.duels(), 1);
        Check.told(x, "whose(0)", x.whose(0), 32);
        Check.told(x, "rivals(5, 0)", x.rivals(5, 0), 1);
        Check.told(x, "alone()", x.alone(), 2);
        int[] ranked = {5, 0, 1, 2, 3, 4};
        for (int k = 0; k < 6; k++) {
            Check.told(x, "ranked(" + k + ")", x.ranked(k), ranked[k]);
        }
        Check.told(x, "behind(0)", x.behind(0), 2);
        Check.told(x, "both(0, 1, 0)", x.both(0, 1, 0), 1);
        Check.told(x, "crowd(1)", x.crowd(1), 6);
        Check.told(x, "safe(0)", x.safe(0), 2);
        Check.told(x, "needs(0)", x.needs(0), 1);
        x.wave(1);
        Check.told(x, "ranked(0)", x.ranked(0), 0);
        Check.told(x, "leader()", x.leader(), 0);
        x.gull(1, 0);
        Check.told(x, "safe(0)", x.safe(0), 1);
    }

    private static void nobody() {
        LastPebble x = Check.on("beach 9 tide 9;find x at 0 worth 5;");
        Check.refused(x, "leader()", x.leader(), 6);
        Check.refused(x, "ranked(0)", x.ranked(0), 6);
        Check.refused(x, "busiest()", x.busiest(), 6);
        Check.refused(x, "latest()", x.latest(), 6);
        Check.refused(x, "behind(0)", x.behind(0), 1);
        Check.told(x, "crowd(40)", x.crowd(40), 0);
        Check.told(x, "open()", x.open(), 5);
        Check.told(x, "alone()", x.alone(), 0);
        Check.told(x, "duels()", x.duels(), 0);
        Check.told(x, "threat(0)", x.threat(0), 0);
    }
}
