/** Promises 17 to 24: what is done. */
public final class DeedTest {
    private static final String TWO = "beach 20 tide 30 moon 4;duel share;finder a at 0 pace 1 pebbles 3;"
            + "finder b at 10 pace 2 pebbles 2;find x at 4 worth 10;find y at 10 worth 7;find z at 15 worth 20;"
            + "pebble of b on y at 5;pebble of a on y at 5;pebble of a on z at 28;";

    public static void main(String[] args) {
        going();
        waiting();
        setting();
        sixtyInAll();
        lifting();
        gulls();
        waves();
        tides();
        tideOfEachDuel();
        dayNinetyNine();
        dawns();
        Check.end();
    }

    private static void going() {
        LastPebble x = Check.on(TWO);
        Check.told(x, "go(1, 15)", x.go(1, 15), 10);
        Check.due("cell", x.finder(1, 0), 15);
        Check.told(x, "go(1, 15)", x.go(1, 15), 10);
        Check.told(x, "go(1, 5)", x.go(1, 5), 30);
        Check.refused(x, "go(1, 4)", x.go(1, 4), 7);
        Check.due("cell", x.finder(1, 0), 5);
        Check.due("clock", x.finder(1, 3), 30);
        Check.due("clock of the other", x.finder(0, 3), 0);
        Check.refused(x, "go(2, 0)", x.go(2, 0), 1);
        Check.refused(x, "go(-1, 0)", x.go(-1, 0), 1);
        Check.refused(x, "go(0, -1)", x.go(0, -1), 1);
        Check.refused(x, "go(0, 20)", x.go(0, 20), 1);
        Check.told(x, "go(0, 2)", x.go(0, 2), 2);
        Check.told(x, "go(0, 0)", x.go(0, 0), 4);
        Check.told(x, "go(0, 19)", x.go(0, 19), 23);
    }

    private static void waiting() {
        LastPebble x = Check.on(TWO);
        Check.told(x, "pass(0, 1)", x.pass(0, 1), 1);
        Check.told(x, "pass(0, 29)", x.pass(0, 29), 30);
        Check.refused(x, "pass(0, 1)", x.pass(0, 1), 7);
        Check.refused(x, "pass(0, 240)", x.pass(0, 240), 7);
        Check.refused(x, "pass(0, 0)", x.pass(0, 0), 1);
        Check.refused(x, "pass(0, 241)", x.pass(0, 241), 1);
        Check.refused(x, "pass(2, 1)", x.pass(2, 1), 1);
        Check.refused(x, "pass(-1, 1)", x.pass(-1, 1), 1);
        Check.due("clock", x.finder(0, 3), 30);
        LastPebble y = Check.on("beach 2 tide 240;finder a at 0 pace 1 pebbles 0;");
        Check.told(y, "pass(0, 240)", y.pass(0, 240), 240);
    }

    private static void setting() {
        LastPebble x = Check.on(TWO);
        Check.refused(x, "set(0, 0)", x.set(0, 0), 7);
        Check.told(x, "set(1, 1)", x.set(1, 1), 3);
        Check.due("first by minutes", x.pebble(1, 0, 0) * 100 + x.pebble(1, 0, 1), 100);
        x.pass(1, 5);
        Check.told(x, "set(1, 1)", x.set(1, 1), 4);
        Check.due("last as it came", x.pebble(1, 3, 0) * 100 + x.pebble(1, 3, 1), 105);
        Check.due("pebbles it has", x.finder(1, 2), 0);
        Check.refused(x, "set(1, 1)", x.set(1, 1), 6);
        Check.refused(x, "set(1, 0)", x.set(1, 0), 6);
        Check.refused(x, "set(2, 0)", x.set(2, 0), 1);
        Check.refused(x, "set(0, 3)", x.set(0, 3), 1);
        Check.refused(x, "set(-1, 0)", x.set(-1, 0), 1);
        Check.refused(x, "set(0, -1)", x.set(0, -1), 1);
        x.go(0, 4);
        Check.told(x, "set(0, 0)", x.set(0, 0), 1);
        Check.due("its minute", x.pebble(0, 0, 1), 4);
        x.tide();
        Check.refused(x, "set(0, 0)", x.set(0, 0), 7);
    }

    private static void sixtyInAll() {
        StringBuilder text = new StringBuilder("beach 2 tide 30;finder a at 0 pace 1 pebbles 20;"
                + "finder b at 0 pace 1 pebbles 20;finder c at 1 pace 1 pebbles 0;find x at 0 worth 1;"
                + "find y at 0 worth 1;");
        for (int i = 0; i < 30; i++) {
            text.append("pebble of a on x at 1;");
        }
        LastPebble x = Check.on(text.toString());
        for (int i = 0; i < 20; i++) {
            Check.told(x, "set(0, 0)", x.set(0, 0), 31 + i);
        }
        for (int i = 0; i < 10; i++) {
            Check.told(x, "set(1, 1)", x.set(1, 1), 1 + i);
        }
        Check.due("in all", x.told(8), 60);
        Check.refused(x, "set(1, 1)", x.set(1, 1), 4);
        Check.refused(x, "set(0, 1)", x.set(0, 1), 4);
        Check.refused(x, "set(2, 1)", x.set(2, 1), 4);
        for (int i = 0; i < 10; i++) {
            Check.told(x, "gull(1, 0)", x.gull(1, 0), 1);
        }
        Check.due("on one find", x.find(0, 2), 60);
        Check.told(x, "lift(0, 0)", x.lift(0, 0), 1);
        Check.told(x, "set(1, 1)", x.set(1, 1), 1);
        Check.refused(x, "set(1, 1)", x.set(1, 1), 4);
        Check.told(x, "tide()", x.tide(), 1);
        Check.due("pebbles gone back to a", x.finder(0, 2), 50);
        Check.due("pebbles gone back to b", x.finder(1, 2), 20);
    }

    private static void lifting() {
        LastPebble x = Check.on("beach 9 tide 30;finder a at 0 pace 1 pebbles 3;finder b at 3 pace 1 pebbles 0;"
                + "find x at 0 worth 1;find y at 3 worth 1;pebble of a on x at 7;pebble of b on x at 7;"
                + "pebble of a on x at 7;pebble of a on x at 2;pebble of b on x at 9;");
        Check.told(x, "lift(0, 0)", x.lift(0, 0), 7);
        Check.due("first of those left", x.pebble(0, 1, 0), 0);
        Check.due("second of those left", x.pebble(0, 2, 0), 1);
        int[] minutes = {2, 7, 7, 9};
        for (int k = 0; k < 4; k++) {
            Check.due("minute of pebble " + k + " left", x.pebble(0, k, 1), minutes[k]);
        }
        Check.due("pebbles it has", x.finder(0, 2), 4);
        Check.told(x, "lift(0, 0)", x.lift(0, 0), 7);
        Check.told(x, "lift(0, 0)", x.lift(0, 0), 2);
        Check.due("minute of the first pebble left", x.pebble(0, 0, 1), 7);
        Check.refused(x, "lift(0, 0)", x.lift(0, 0), 6);
        Check.due("left", x.find(0, 2), 2);
        Check.refused(x, "lift(1, 0)", x.lift(1, 0), 7);
        Check.refused(x, "lift(1, 1)", x.lift(1, 1), 6);
        Check.refused(x, "lift(0, 1)", x.lift(0, 1), 6);
        Check.refused(x, "lift(2, 0)", x.lift(2, 0), 1);
        Check.refused(x, "lift(0, 2)", x.lift(0, 2), 1);
        Check.refused(x, "lift(-1, 0)", x.lift(-1, 0), 1);
        Check.refused(x, "lift(0, -1)", x.lift(0, -1), 1);
        x.tide();
        Check.refused(x, "lift(1, 0)", x.lift(1, 0), 6);
    }

    private static void gulls() {
        LastPebble x = Check.on(TWO);
        Check.told(x, "gull(1, 2)", x.gull(1, 2), 0);
        Check.due("stands ahead of the later one", x.pebble(2, 0, 1), 5);
        Check.told(x, "gull(2, 1)", x.gull(2, 1), 0);
        Check.due("its minute as it is", x.pebble(1, 1, 1), 28);
        Check.told(x, "gull(1, 2)", x.gull(1, 2), 0);
        Check.told(x, "gull(1, 2)", x.gull(1, 2), 1);
        Check.due("behind those of that minute", x.pebble(2, 0, 0) * 10 + x.pebble(2, 1, 0), 1);
        Check.refused(x, "gull(1, 2)", x.gull(1, 2), 6);
        Check.refused(x, "gull(1, 1)", x.gull(1, 1), 1);
        Check.refused(x, "gull(-1, 1)", x.gull(-1, 1), 1);
        Check.refused(x, "gull(1, -1)", x.gull(1, -1), 1);
        Check.refused(x, "gull(3, 1)", x.gull(3, 1), 1);
        Check.refused(x, "gull(1, 3)", x.gull(1, 3), 1);
        x.tide();
        Check.refused(x, "gull(2, 1)", x.gull(2, 1), 6);
    }

    private static void waves() {
        LastPebble x = Check.on(TWO);
        Check.told(x, "wave(0)", x.wave(0), 0);
        Check.told(x, "wave(10)", x.wave(10), 0);
        Check.told(x, "wave(11)", x.wave(11), 2);
        Check.due("in all", x.told(8), 1);
        Check.due("the sea's", x.finder(0, 2) * 10 + x.finder(1, 2), 32);
        Check.refused(x, "wave(-1)", x.wave(-1), 1);
        Check.refused(x, "wave(41)", x.wave(41), 1);
        Check.told(x, "wave(40)", x.wave(40), 1);
        Check.told(x, "wave(40)", x.wave(40), 0);
        Check.due("all still there", x.told(7), 7);
    }

    private static void tides() {
        LastPebble x = Check.on(TWO);
        x.go(0, 4);
        x.set(0, 0);
        Check.told(x, "tide()", x.tide(), 1);
        Check.due("kept by a", x.finder(0, 4), 33);
        Check.due("kept by b", x.finder(1, 4), 3);
        Check.due("pebbles of a", x.finder(0, 2), 5);
        Check.due("pebbles of b", x.finder(1, 2), 3);
        Check.due("clock", x.finder(0, 3), 0);
        Check.due("cell", x.finder(0, 0), 4);
        Check.due("tide's minute", x.told(3), 26);
        Check.due("there", x.told(7), 0);
        Check.due("pebbles", x.told(8), 0);
        Check.refused(x, "tide()", x.tide(), 7);
        x.dawn();
        x.go(0, 15);
        x.set(0, 2);
        Check.told(x, "tide()", x.tide(), 2);
        Check.due("kept by a", x.finder(0, 4), 53);
        Check.due("kept by b", x.finder(1, 4), 3);
        for (int day = 3; day < 12; day++) {
            x.dawn();
            Check.told(x, "tide()", x.tide(), day);
            Check.due("tide's minute", x.told(3), Math.max(1, 30 - 4 * day));
        }
        LastPebble y = new LastPebble();
        Check.refused(y, "tide()", y.tide(), 7);
    }

    private static void tideOfEachDuel() {
        String[] laws = {"none", "first", "last", "share"};
        int[][] kept = {{0, 0, 0}, {0, 100, 0}, {0, 0, 100}, {0, 50, 50}};
        for (int i = 0; i < 4; i++) {
            LastPebble x = Check.on("beach 9 tide 30;duel " + laws[i] + ";finder c at 0 pace 1 pebbles 3;"
                    + "finder a at 0 pace 1 pebbles 3;finder b at 3 pace 1 pebbles 0;find x at 0 worth 100;"
                    + "find y at 0 worth 50;pebble of b on x at 7;pebble of a on x at 7;pebble of a on x at 7;"
                    + "pebble of c on x at 6;");
            x.tide();
            for (int f = 0; f < 3; f++) {
                Check.due("kept by " + f + " with " + laws[i], x.finder(f, 4), kept[i][f]);
            }
        }
    }

    private static void dayNinetyNine() {
        LastPebble x = Check.on("beach 2 tide 240 moon 1;find x at 0 worth 1;");
        for (int day = 1; day <= 99; day++) {
            Check.told(x, "tide()", x.tide(), day);
            x.dawn();
        }
        Check.due("tide's minute", x.told(3), 141);
        Check.refused(x, "tide()", x.tide(), 4);
        Check.due("day", x.told(6), 99);
        LastPebble y = Check.on("beach 2 tide 240;find x at 0 worth 1;");
        for (int day = 1; day < 99; day++) {
            y.tide();
            y.dawn();
        }
        y.tide();
        Check.refused(y, "tide()", y.tide(), 4);
    }

    private static void dawns() {
        LastPebble x = Check.on(TWO);
        Check.refused(x, "dawn()", x.dawn(), 7);
        x.tide();
        Check.told(x, "dawn()", x.dawn(), 3);
        Check.due("there", x.told(7), 7);
        Check.due("pebbles", x.told(8), 0);
        Check.due("day", x.told(6), 1);
        Check.refused(x, "dawn()", x.dawn(), 7);
        LastPebble y = new LastPebble();
        Check.told(y, "dawn()", y.dawn(), 0);
    }
}
