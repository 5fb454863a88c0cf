/** Promises 32 to 41: what could be. */
public final class CouldTest {
    public static void main(String[] args) {
        soonest();
        threats();
        bestWaits();
        bestTies();
        bestLimits();
        bestRowStays();
        lateness();
        seen();
        boys();
        odds();
        gulls();
        Check.end();
    }

    private static final String RACE = "beach 20 tide 30;finder a at 0 pace 2 pebbles 3;"
            + "finder b at 10 pace 1 pebbles 0;finder c at 15 pace 1 pebbles 1;find x at 4 worth 10;"
            + "find y at 10 worth 7;find z at 15 worth 20;pebble of b on x at 20;pebble of a on x at 29;"
            + "pebble of b on y at 30;pebble of a on z at 30;";

    private static void soonest() {
        LastPebble x = Check.on(RACE);
        Check.told(x, "soonest(0, 0)", x.soonest(0, 0), 21);
        Check.refused(x, "soonest(0, 1)", x.soonest(0, 1), 7);
        Check.told(x, "soonest(0, 2)", x.soonest(0, 2), 30);
        x.pass(0, 1);
        Check.refused(x, "soonest(0, 2)", x.soonest(0, 2), 7);
        Check.told(x, "soonest(2, 0)", x.soonest(2, 0), 30);
        Check.refused(x, "soonest(1, 0)", x.soonest(1, 0), 7);
        Check.refused(x, "soonest(3, 0)", x.soonest(3, 0), 1);
        Check.refused(x, "soonest(0, 3)", x.soonest(0, 3), 1);
        Check.refused(x, "soonest(-1, 0)", x.soonest(-1, 0), 1);
        Check.refused(x, "soonest(0, -1)", x.soonest(0, -1), 1);
        x.tide();
        Check.refused(x, "soonest(0, 0)", x.soonest(0, 0), 7);
        x.dawn();
        Check.told(x, "soonest(1, 0)", x.soonest(1, 0), 6);
    }

    private static void threats() {
        LastPebble x = Check.on(RACE);
        Check.told(x, "threat(0)", x.threat(0), 5);
        Check.told(x, "threat(1)", x.threat(1), 0);
        Check.told(x, "threat(2)", x.threat(2), 1);
        Check.refused(x, "threat(3)", x.threat(3), 1);
        Check.refused(x, "threat(-1)", x.threat(-1), 1);
        x.tide();
        Check.refused(x, "threat(0)", x.threat(0), 7);
    }

    private static void row(LastPebble x, String of, int worth, int... finds) {
        Check.told(x, "best(0) " + of, x.best(0), worth);
        for (int k = 0; k < finds.length; k++) {
            Check.told(x, "bestAt(" + k + ") " + of, x.bestAt(k), finds[k]);
        }
        Check.refused(x, "bestAt(" + finds.length + ") " + of, x.bestAt(finds.length), 6);
        Check.refused(x, "bestAt(-1) " + of, x.bestAt(-1), 6);
    }

    private static LastPebble round(String tide, String pebbles, String more) {
        return Check.on("beach 20 tide " + tide + ";finder a at 5 pace 1 pebbles " + pebbles
                + ";finder b at 0 pace 1 pebbles 0;" + more);
    }

    private static void bestWaits() {
        String more = "find x at 5 worth 1;find y at 8 worth 2;pebble of b on x at 10;";
        row(round("17", "3", more), "out and back", 3, 0, 1);
        row(round("14", "3", more), "in time", 3, 0, 1);
        row(round("13", "3", more), "the far one first", 3, 1, 0);
        row(round("10", "3", more), "no time to wait", 2, 1);
        row(round("10", "3", "find y at 16 worth 2;"), "none can be had", 0);
    }

    private static void bestTies() {
        row(round("30", "1", "find x at 9 worth 3;find y at 1 worth 3;"), "of one worth", 3, 0);
        row(round("30", "2", "find x at 9 worth 3;find y at 1 worth 3;find z at 5 worth 6;"), "first of two", 9, 0, 2);
        row(round("4", "3", "find x at 7 worth 3;find y at 6 worth 3;find z at 3 worth 6;"), "more worth", 9, 1, 2);
        row(round("3", "3", "find x at 7 worth 3;find y at 6 worth 3;find z at 3 worth 6;"), "fewest", 6, 2);
        row(round("30", "3", "find x at 5 worth 0;find y at 5 worth 3;find z at 5 worth 0;"), "without worth", 3, 1);
        row(round("30", "3", "find x at 5 worth 0;"), "of no worth", 0);
        row(round("30", "2", "find p at 6 worth 1;find q at 6 worth 2;find r at 6 worth 2;find s at 6 worth 3;"),
                "first row", 5, 1, 3);
        row(round("5", "2", "find p at 8 worth 2;find q at 3 worth 2;find r at 1 worth 2;find s at 9 worth 2;"),
                "right or left", 4, 0, 3);
        row(round("4", "2", "find p at 9 worth 2;find q at 3 worth 2;find r at 1 worth 2;find s at 8 worth 2;"),
                "left or right", 4, 1, 2);
        row(round("3", "3", "find p at 5 worth 2;find q at 7 worth 2;find r at 3 worth 2;find s at 2 worth 2;"
                + "find t at 8 worth 2;"), "of one beginning", 6, 0, 1, 4);
        row(round("3", "3", "find p at 5 worth 2;find q at 8 worth 2;find r at 3 worth 2;find s at 2 worth 2;"
                + "find t at 7 worth 2;"), "of one beginning, turned", 6, 0, 2, 3);
    }

    private static void bestLimits() {
        String more = "find x at 5 worth 1;find y at 6 worth 2;find z at 7 worth 3;pebble of a on z at 9;";
        row(round("30", "0", more), "without pebbles", 0);
        row(round("30", "1", more), "with one", 3, 2);
        row(round("30", "2", more), "with two", 5, 1, 2);
        row(round("30", "20", more), "with many", 6, 0, 1, 2);
        LastPebble x = round("30", "20", more);
        x.pass(0, 29);
        row(x, "late", 3, 0, 1);
        x.pass(0, 1);
        row(x, "at the last minute", 1, 0);
        x.tide();
        row(x, "gone", 0);
        Check.refused(x, "best(2)", x.best(2), 1);
        Check.refused(x, "best(-1)", x.best(-1), 1);
        StringBuilder eight = new StringBuilder();
        for (int i = 0; i < 8; i++) {
            eight.append("find ").append((char) ('p' + i)).append(" at ").append(19 - 2 * i).append(" worth 99;");
        }
        row(round("240", "8", eight.toString()), "all eight", 792, 0, 1, 2, 3, 4, 5, 6, 7);
        row(round("14", "8", eight.toString()), "all along", 792, 7, 6, 5, 4, 3, 2, 1, 0);
        row(round("13", "8", eight.toString()), "seven of eight", 693, 7, 6, 5, 4, 3, 2, 1);
    }

    private static void bestRowStays() {
        LastPebble x = round("30", "20", "find x at 5 worth 1;find y at 6 worth 2;find z at 7 worth 3;");
        Check.refused(x, "bestAt(0)", x.bestAt(0), 6);
        x.best(0);
        x.best(7);
        x.lateness(1, 7);
        x.tide();
        Check.beach(x, "beach 2 tide 2;");
        for (int k = 0; k < 3; k++) {
            Check.told(x, "bestAt(" + k + ")", x.bestAt(k), k);
        }
    }

    private static void lateness() {
        LastPebble x = round("2", "2", "find x at 8 worth 4;find y at 1 worth 7;find z at 19 worth 50;");
        int[] due = {0, 4, 7, 7, 7, 7, 7, 7, 11, 11, 11, 11, 54};
        for (int i = 0; i < due.length; i++) {
            Check.told(x, "lateness(0, " + i + ")", x.lateness(0, i), due[i]);
        }
        Check.told(x, "lateness(0, 240)", x.lateness(0, 240), 57);
        LastPebble more = round("4", "2", "find x at 8 worth 4;find y at 1 worth 7;find z at 19 worth 50;");
        Check.told(more, "lateness(0, 0)", more.lateness(0, 0), 0);
        Check.told(more, "lateness(0, 6)", more.lateness(0, 6), 4);
        Check.told(more, "lateness(0, 10)", more.lateness(0, 10), 47);
        Check.told(x, "lateness(1, 240)", x.lateness(1, 240), 0);
        Check.refused(x, "lateness(0, 241)", x.lateness(0, 241), 1);
        Check.refused(x, "lateness(0, -1)", x.lateness(0, -1), 1);
        Check.refused(x, "lateness(2, 0)", x.lateness(2, 0), 1);
        Check.refused(x, "lateness(-1, 0)", x.lateness(-1, 0), 1);
        Check.told(x, "told(3)", x.told(3), 2);
    }

    private static void seen() {
        LastPebble x = round("30", "0", "find x at 2 worth 1;find y at 5 worth 2;find z at 8 worth 3;");
        Check.told(x, "seen(0, 0)", x.seen(0, 0), 2);
        Check.told(x, "seen(0, 2)", x.seen(0, 2), 2);
        Check.told(x, "seen(0, 3)", x.seen(0, 3), 7);
        Check.told(x, "seen(1, 3)", x.seen(1, 3), 1);
        Check.refused(x, "seen(0, -1)", x.seen(0, -1), 1);
        Check.refused(x, "seen(0, 41)", x.seen(0, 41), 1);
        Check.refused(x, "seen(2, 0)", x.seen(2, 0), 1);
        Check.refused(x, "seen(-1, 0)", x.seen(-1, 0), 1);
    }

    private static void boys() {
        LastPebble x = Check.on("beach 20 tide 9;find x at 17 worth 1;find y at 4 worth 1;find z at 9 worth 1;"
                + "find v at 4 worth 1;find w at 19 worth 1;");
        int[] boys = {4, 3, 3, 2, 2, 2, 2, 2, 1, 1};
        for (int cells = 0; cells < boys.length; cells++) {
            Check.told(x, "boys(" + cells + ")", x.boys(cells), boys[cells]);
        }
        int[] each = {4, 9, 17, 19};
        for (int k = 0; k < 4; k++) {
            Check.told(x, "boyAt(0, " + k + ")", x.boyAt(0, k), each[k]);
        }
        Check.refused(x, "boyAt(0, 4)", x.boyAt(0, 4), 6);
        Check.refused(x, "boyAt(0, -1)", x.boyAt(0, -1), 6);
        Check.told(x, "boyAt(3, 0)", x.boyAt(3, 0), 7);
        Check.told(x, "boyAt(3, 1)", x.boyAt(3, 1), 19);
        Check.told(x, "boyAt(8, 0)", x.boyAt(8, 0), 12);
        Check.told(x, "boyAt(16, 0)", x.boyAt(16, 0), 19);
        Check.refused(x, "boyAt(40, 1)", x.boyAt(40, 1), 6);
        Check.told(x, "boys(40)", x.boys(40), 1);
        Check.refused(x, "boys(-1)", x.boys(-1), 1);
        Check.refused(x, "boys(41)", x.boys(41), 1);
        Check.refused(x, "boyAt(-1, 0)", x.boyAt(-1, 0), 1);
        Check.refused(x, "boyAt(41, 0)", x.boyAt(41, 0), 1);
        Check.refused(x, "boyAt(0, 2147483647)", x.boyAt(0, 2147483647), 6);
        x.tide();
        Check.told(x, "boys(0)", x.boys(0), 0);
        Check.refused(x, "boyAt(0, 0)", x.boyAt(0, 0), 6);
        StringBuilder eight = new StringBuilder("beach 40 tide 9;");
        for (int i = 0; i < 8; i++) {
            eight.append("find ").append((char) ('p' + i)).append(" at ").append(5 * i).append(" worth 1;");
        }
        LastPebble y = Check.on(eight.toString());
        Check.told(y, "boys(2)", y.boys(2), 8);
        Check.told(y, "boyAt(2, 7)", y.boyAt(2, 7), 37);
    }

    private static void odds() {
        LastPebble x = Check.on("beach 9 tide 20;finder a at 0 pace 1 pebbles 1;find x at 0 worth 100;"
                + "find y at 0 worth 5;find z at 0 worth 999;find v at 0 worth 1;pebble of a on x at 18;"
                + "pebble of a on y at 20;pebble of a on z at 8;pebble of a on v at 7;");
        oddsAre(x, 0, 4, 0, 9, 16);
        oddsAre(x, 0, 4, 1, 225, 4);
        oddsAre(x, 0, 0, 0, 1, 1);
        oddsAre(x, 0, 0, 1, 100, 1);
        oddsAre(x, 0, 16, 1, 0, 1);
        oddsAre(x, 1, 16, 0, 1, 1);
        oddsAre(x, 1, 5, 1, 5, 1);
        oddsAre(x, 2, 1, 0, 129746337890625L, 281474976710656L);
        oddsAre(x, 2, 1, 1, 129616591552734375L, 281474976710656L);
        Check.denied(x, "odds(3, 1, 0)", x.odds(3, 1, 0), 7);
        Check.denied(x, "odds(4, 1, 0)", x.odds(4, 1, 0), 1);
        Check.denied(x, "odds(-1, 1, 0)", x.odds(-1, 1, 0), 1);
        Check.denied(x, "odds(0, -1, 0)", x.odds(0, -1, 0), 1);
        Check.denied(x, "odds(0, 17, 0)", x.odds(0, 17, 0), 1);
        Check.denied(x, "odds(0, 1, -1)", x.odds(0, 1, -1), 1);
        Check.denied(x, "odds(0, 1, 2)", x.odds(0, 1, 2), 1);
        x.wave(1);
        Check.denied(x, "odds(3, 1, 0)", x.odds(3, 1, 0), 6);
        x.tide();
        Check.denied(x, "odds(3, 1, 0)", x.odds(3, 1, 0), 7);
        Check.fraction(x, "odds(3, 1, 0)", 129616591552734375L, 281474976710656L);
    }

    private static void oddsAre(LastPebble x, int find, int sixteenths, int what, long top, long bottom) {
        String call = "odds(" + find + ", " + sixteenths + ", " + what + ")";
        Check.granted(x, call, x.odds(find, sixteenths, what));
        Check.fraction(x, call, top, bottom);
    }

    private static void gullsAre(LastPebble x, int gulls, int status, long... told) {
        for (int i = 0; i < told.length; i++) {
            x.write(0, i, told[i]);
        }
        int got = x.gulls(0);
        Check.due("gulls(0)", got, gulls);
        Check.due("status() behind gulls(0)", x.status(), status);
    }

    private static void gulls() {
        LastPebble x = Check.on("beach 9 tide 9;finder a at 0 pace 1 pebbles 1;find x at 0 worth 1;"
                + "find y at 0 worth 5;find z at 0 worth 9;pebble of a on x at 8;pebble of a on y at 8;"
                + "pebble of a on y at 8;pebble of a on y at 8;");
        Check.refused(x, "gulls(0)", x.gulls(0), 2);
        Check.refused(x, "gulls(4)", x.gulls(4), 1);
        Check.refused(x, "gulls(-1)", x.gulls(-1), 1);
        x.tray(0, 3, 2);
        Check.refused(x, "gulls(0)", x.gulls(0), 3);
        x.tray(0, 3, 4);
        gullsAre(x, 0, 0, 1, 3, 0, 99);
        gullsAre(x, 3, 0, 4, 0, 0);
        gullsAre(x, 4, 0, 0, 0, 4);
        gullsAre(x, 2, 0, 2, 1, 1);
        gullsAre(x, -1, 7, 1, 1, 1);
        gullsAre(x, -1, 7, 2, 3, 0);
        gullsAre(x, -1, 7, 60, 60, 60);
        gullsAre(x, -1, 5, 61, 0, 0);
        gullsAre(x, -1, 5, 4, 0, -1);
        gullsAre(x, -1, 5, 1, 3, 1L << 32);
        x.tide();
        gullsAre(x, -1, 7, 0, 0, 1);
        gullsAre(x, 0, 0, 0, 0, 0);
        LastPebble y = new LastPebble();
        y.tray(0, 0, 0);
        Check.told(y, "gulls(0)", y.gulls(0), 0);
    }
}
