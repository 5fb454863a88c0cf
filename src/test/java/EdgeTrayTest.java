/** The edges of promises 1 to 8: a new object, STATUS, the FRACTION, TRAYS. */
public final class EdgeTrayTest {
    public static void main(String[] args) {
        traysAreFourAndMissingAtFirst();
        statusIsLeftByCallsThatHaveNone();
        statusIsThatOfTheLatestCall();
        noughtIsNoughtByOne();
        fractionIsTheOneToldLatest();
        trayHasNoneToSixtyNumbers();
        trayIsOfFourSorts();
        trayLaidAgainIsOfNoughts();
        writeCutsToTheSort();
        writeAndReadFromFirstToLastPlace();
        readTellsNoneFromMinusOneByStatus();
        pourAsksInItsOrder();
        pourTakesJustWhatThereIs();
        pourOntoItself();
        pourNothing();
        fiveHundredAndTwelveCalls();
        Check.end();
    }

    private static void traysAreFourAndMissingAtFirst() {
        Edge.between("tray(n, 0, 1)", Edge::full, (x, n) -> Edge.flag(x.tray(n, 0, 1)), 0, 3);
        Edge.outside("write(n, 0, 1)", Edge::full, (x, n) -> Edge.flag(x.write(n, 0, 1)), 0, 3);
        Edge.outside("read(n, 0)", Edge::full, (x, n) -> x.read(n, 0), 0, 3);
        Edge.outside("pour(n, 0, 1, 0, 1)", Edge::full, (x, n) -> Edge.flag(x.pour(n, 0, 1, 0, 1)), 0, 3);
        Edge.outside("pour(1, 0, n, 0, 1)", Edge::full, (x, n) -> Edge.flag(x.pour(1, 0, n, 0, 1)), 0, 3);
        Edge.outside("gulls(n)", Edge::full, (x, n) -> x.gulls(n), 0, 3);
        for (int i = 0; i < 4; i++) {
            int tray = i;
            Edge.refuses("write a missing tray", Edge::fresh, x -> Edge.flag(x.write(tray, 0, 1)), 2);
            Edge.refuses("read a missing tray", Edge::fresh, x -> x.read(tray, 0), 2);
            Edge.refuses("pour from a missing tray", Edge::fresh, x -> Edge.flag(x.pour(tray, 0, tray, 0, 0)), 2);
            Edge.refuses("gulls of a missing tray", Edge::fresh, x -> x.gulls(tray), 2);
        }
        Edge.refuses("pour(0, 0, 3, 0, 1)", Edge::full, x -> Edge.flag(x.pour(0, 0, 3, 0, 1)), 2);
        Edge.refuses("pour(3, 0, 0, 0, 1)", Edge::full, x -> Edge.flag(x.pour(3, 0, 0, 0, 1)), 2);
    }

    private static void statusIsLeftByCallsThatHaveNone() {
        LastPebble x = Edge.full();
        Check.refused(x, "go(0, 20)", x.go(0, 20), 1);
        x.status();
        x.top();
        x.bottom();
        x.fault(0);
        x.fault(7);
        Check.due("feed", x.feed(0, 0, 0, 0, 0), 40);
        Check.due("status()", x.status(), 1);
        for (int i = 0; i < 43; i++) {
            x.feed(0, 0, 0, 0, 0);
        }
        Check.due("feed onto a full tape", x.feed(0, 0, 0, 0, 0), -1);
        Check.due("status()", x.status(), 1);
        Check.told(x, "told(0)", x.told(0), 20);
        Check.due("feed onto a full tape", x.feed(0, 0, 0, 0, 0), -1);
        Check.due("fault(-1)", x.fault(-1), -1);
        Check.due("status()", x.status(), 0);
    }

    private static void statusIsThatOfTheLatestCall() {
        LastPebble x = Edge.full();
        Check.due("status() of a new object", new LastPebble().status(), 0);
        Check.refused(x, "pass(0, 0)", x.pass(0, 0), 1);
        Check.refused(x, "read(3, 0)", x.read(3, 0), 2);
        Check.refused(x, "read(0, 3)", x.read(0, 3), 3);
        x.mark();
        x.mark();
        Check.refused(x, "mark()", x.mark(), 4);
        x.write(0, 0, -1);
        Check.refused(x, "gulls(0)", x.gulls(0), 5);
        Check.refused(x, "set(2, 1)", x.set(2, 1), 6);
        Check.refused(x, "dawn()", x.dawn(), 7);
        Check.denied(x, "pour(0, 0, 2, 0, 1)", x.pour(0, 0, 2, 0, 1), 8);
        Check.refused(x, "beach(0)", x.beach(0), 9);
        Check.told(x, "walk(0, 0)", x.walk(0, 0), 0);
    }

    private static void noughtIsNoughtByOne() {
        LastPebble x = new LastPebble();
        Check.fraction(x, "a new object", 0, 1);
        LastPebble y = Edge.full();
        Check.granted(y, "odds(2, 16, 0)", y.odds(2, 16, 0));
        Check.fraction(y, "odds(2, 16, 0)", 0, 1);
        Check.granted(y, "odds(2, 8, 1)", y.odds(2, 8, 1));
        Check.fraction(y, "odds(2, 8, 1)", 5, 1);
        Check.granted(y, "mean(2, 0, 20)", y.mean(2, 0, 20));
        Check.fraction(y, "mean(2, 0, 20)", 0, 1);
        LastPebble z = Check.on("beach 2 tide 1;finder a at 0 pace 1 pebbles 0;find x at 0 worth 0;"
                + "pebble of a on x at 1;");
        Check.granted(z, "odds(0, 5, 1)", z.odds(0, 5, 1));
        Check.fraction(z, "odds(0, 5, 1)", 0, 1);
    }

    private static void fractionIsTheOneToldLatest() {
        LastPebble x = Edge.full();
        Check.fraction(x, "odds(2, 8, 0)", 1, 4);
        x.go(0, 0);
        x.best(0);
        x.tide();
        Check.fraction(x, "calls without a fraction", 1, 4);
        Check.granted(x, "mean(0, 0, 2)", x.mean(0, 0, 2));
        Check.fraction(x, "mean(0, 0, 2)", 23, 1);
        Check.denied(x, "mean(0, 0, 0)", x.mean(0, 0, 0), 1);
        Check.denied(x, "odds(2, 8, 0)", x.odds(2, 8, 0), 7);
        Check.fraction(x, "refused calls", 23, 1);
    }

    private static void trayHasNoneToSixtyNumbers() {
        Edge.between("tray(3, 0, n)", Edge::full, (x, n) -> Edge.flag(x.tray(3, 0, n)), 0, 60);
        LastPebble x = new LastPebble();
        for (int sort = 0; sort < 4; sort++) {
            Check.granted(x, "tray of 60", x.tray(0, sort, 60));
            Check.granted(x, "the last place", x.write(0, 59, 5));
            Check.told(x, "the last place", x.read(0, 59), 5);
            Check.refused(x, "behind the last place", x.read(0, 60), 3);
            Check.granted(x, "tray of none", x.tray(0, sort, 0));
            Check.refused(x, "the first place of none", x.read(0, 0), 3);
            Check.denied(x, "the first place of none", x.write(0, 0, 1), 3);
            Check.granted(x, "tray of one", x.tray(0, sort, 1));
            Check.told(x, "the only place", x.read(0, 0), 0);
            Check.refused(x, "behind the only place", x.read(0, 1), 3);
        }
    }

    private static void trayIsOfFourSorts() {
        Edge.between("tray(3, n, 1)", Edge::full, (x, n) -> Edge.flag(x.tray(3, n, 1)), 0, 3);
    }

    private static void trayLaidAgainIsOfNoughts() {
        LastPebble x = new LastPebble();
        x.tray(1, 3, 60);
        for (int place = 0; place < 60; place++) {
            x.write(1, place, Long.MIN_VALUE + place);
        }
        Check.denied(x, "tray(1, 4, 60)", x.tray(1, 4, 60), 1);
        Check.told(x, "read(1, 59)", x.read(1, 59), Long.MIN_VALUE + 59);
        Check.granted(x, "tray(1, 0, 1)", x.tray(1, 0, 1));
        Check.granted(x, "tray(1, 3, 60)", x.tray(1, 3, 60));
        for (int place = 0; place < 60; place++) {
            Check.told(x, "read(1, " + place + ")", x.read(1, place), 0);
        }
    }

    private static void cut(int sort, long written, long read) {
        LastPebble x = new LastPebble();
        x.tray(2, sort, 3);
        x.write(2, 0, 1);
        x.write(2, 2, 2);
        Check.granted(x, "write " + written + " of sort " + sort, x.write(2, 1, written));
        Check.told(x, "read " + written + " of sort " + sort, x.read(2, 1), read);
        Check.told(x, "the place ahead", x.read(2, 0), 1);
        Check.told(x, "the place behind", x.read(2, 2), 2);
    }

    private static void writeCutsToTheSort() {
        for (int sort = 0; sort < 3; sort++) {
            long half = 1L << (8 << sort) - 1;
            cut(sort, half - 1, half - 1);
            cut(sort, half, -half);
            cut(sort, -half, -half);
            cut(sort, -half - 1, half - 1);
            cut(sort, 2 * half - 1, -1);
            cut(sort, 2 * half, 0);
            cut(sort, -2 * half, 0);
            cut(sort, 2 * half + 1, 1);
            cut(sort, Long.MAX_VALUE, -1);
            cut(sort, Long.MIN_VALUE, 0);
        }
        cut(3, Long.MAX_VALUE, Long.MAX_VALUE);
        cut(3, Long.MIN_VALUE, Long.MIN_VALUE);
        cut(3, 1L << 32, 1L << 32);
    }

    private static void writeAndReadFromFirstToLastPlace() {
        for (int place : new int[] {-1, 3, Integer.MIN_VALUE, Integer.MAX_VALUE}) {
            Edge.refuses("write(0, " + place + ", 5)", Edge::full, x -> Edge.flag(x.write(0, place, 5)), 3);
            Edge.refuses("read(0, " + place + ")", Edge::full, x -> x.read(0, place), 3);
            Edge.refuses("write(3, " + place + ", 5)", Edge::full, x -> Edge.flag(x.write(3, place, 5)), 2);
            Edge.refuses("read(3, " + place + ")", Edge::full, x -> x.read(3, place), 2);
            Edge.refuses("write(4, " + place + ", 5)", Edge::full, x -> Edge.flag(x.write(4, place, 5)), 1);
            Edge.refuses("read(4, " + place + ")", Edge::full, x -> x.read(4, place), 1);
        }
        for (int place = 0; place < 3; place++) {
            int k = place;
            Edge.tells("write(0, " + k + ", 5)", Edge::full, x -> Edge.flag(x.write(0, k, 5)), 1);
            Edge.tells("read(0, " + k + ")", Edge::full, x -> x.read(0, k), k == 0 ? 7 : 0);
        }
    }

    private static void readTellsNoneFromMinusOneByStatus() {
        LastPebble x = new LastPebble();
        for (int sort = 0; sort < 4; sort++) {
            x.tray(sort, sort, 1);
            x.write(sort, 0, -1);
            Check.told(x, "read(" + sort + ", 0)", x.read(sort, 0), -1);
            Check.refused(x, "read(" + sort + ", 1)", x.read(sort, 1), 3);
        }
    }

    private static void pours(int from, int place, int to, int at, int many, int status) {
        Edge.refuses("pour(" + from + ", " + place + ", " + to + ", " + at + ", " + many + ")", Edge::full,
                x -> Edge.flag(x.pour(from, place, to, at, many)), status);
    }

    /** First 1, then 2, then 8, then 3: each with all behind it holding, too. */
    private static void pourAsksInItsOrder() {
        pours(4, 9, 3, 9, 9, 1);
        pours(3, 9, -1, 9, 9, 1);
        pours(3, -1, 2, 9, 9, 1);
        pours(3, 9, 2, -1, 9, 1);
        pours(3, 9, 2, 9, -1, 1);
        pours(0, Integer.MIN_VALUE, 1, 0, 1, 1);
        pours(0, 0, 1, Integer.MIN_VALUE, 1, 1);
        pours(0, 0, 1, 0, Integer.MIN_VALUE, 1);
        pours(3, 9, 2, 9, 9, 2);
        pours(2, 9, 3, 9, 9, 2);
        pours(0, 9, 2, 9, 9, 8);
        pours(2, 9, 0, 9, 9, 8);
        pours(0, 0, 2, 0, 0, 8);
        pours(0, 3, 1, 0, 1, 3);
        pours(0, 0, 1, 4, 1, 3);
    }

    private static void pourTakesJustWhatThereIs() {
        pours(0, 0, 1, 0, 4, 3);
        pours(0, 1, 1, 0, 3, 3);
        pours(1, 0, 0, 0, 4, 3);
        pours(1, 0, 0, 1, 3, 3);
        pours(1, 2, 0, 0, 3, 3);
        pours(0, 1, 1, 0, Integer.MAX_VALUE, 3);
        pours(0, Integer.MAX_VALUE, 1, 0, 1, 3);
        pours(0, 0, 1, Integer.MAX_VALUE, 1, 3);
        LastPebble x = Edge.full();
        Check.granted(x, "pour(0, 0, 1, 1, 3)", x.pour(0, 0, 1, 1, 3));
        long[] due = {0, 7, 0, 0};
        for (int place = 0; place < 4; place++) {
            Check.told(x, "read(1, " + place + ")", x.read(1, place), due[place]);
        }
        Check.told(x, "read(0, 0)", x.read(0, 0), 7);
        LastPebble wide = new LastPebble();
        wide.tray(0, 3, 60);
        wide.tray(1, 3, 60);
        for (int place = 0; place < 60; place++) {
            wide.write(0, place, Long.MAX_VALUE - place);
        }
        Check.granted(wide, "pour(0, 0, 1, 0, 60)", wide.pour(0, 0, 1, 0, 60));
        for (int place = 0; place < 60; place++) {
            Check.told(wide, "read(1, " + place + ")", wide.read(1, place), Long.MAX_VALUE - place);
        }
        Check.denied(wide, "pour(0, 0, 1, 0, 61)", wide.pour(0, 0, 1, 0, 61), 3);
    }

    /** "As they were": what is poured is what stood there ahead, on both sides of where it stands. */
    private static void pourOntoItself() {
        int[][] due = {{1, 1, 2, 3}, {2, 3, 4, 4}, {1, 2, 3, 4}};
        int[][] places = {{0, 1, 3}, {1, 0, 3}, {0, 0, 4}};
        for (int i = 0; i < due.length; i++) {
            LastPebble x = new LastPebble();
            x.tray(0, 1, 4);
            for (int place = 0; place < 4; place++) {
                x.write(0, place, place + 1);
            }
            Check.granted(x, "pour onto itself", x.pour(0, places[i][0], 0, places[i][1], places[i][2]));
            for (int place = 0; place < 4; place++) {
                Check.told(x, "read(0, " + place + ") of pour " + i, x.read(0, place), due[i][place]);
            }
        }
    }

    private static void pourNothing() {
        for (int place = 0; place <= 3; place++) {
            LastPebble x = Edge.full();
            Check.granted(x, "pour(0, " + place + ", 1, 4, 0)", x.pour(0, place, 1, 4, 0));
            Check.told(x, "read(1, 3)", x.read(1, 3), 9);
        }
        pours(0, 4, 1, 0, 0, 3);
        pours(0, 0, 1, 5, 0, 3);
        LastPebble x = new LastPebble();
        x.tray(0, 0, 0);
        Check.granted(x, "pour(0, 0, 0, 0, 0)", x.pour(0, 0, 0, 0, 0));
        Check.denied(x, "pour(0, 0, 0, 0, 1)", x.pour(0, 0, 0, 0, 1), 3);
    }

    private static void fiveHundredAndTwelveCalls() {
        LastPebble x = new LastPebble();
        x.tray(0, 3, 60);
        for (int call = 2; call <= 511; call++) {
            x.write(0, call % 60, call);
        }
        Check.due("read(0, 31) as the last call", x.read(0, 31), 511);
    }
}
