/** Promises 1 to 8: a new object, status, the fraction, trays. */
public final class TrayTest {
    public static void main(String[] args) {
        newObject();
        statusAndFraction();
        laying();
        writing();
        pouring();
        Check.end();
    }

    private static void newObject() {
        LastPebble x = new LastPebble();
        Check.due("status()", x.status(), 0);
        Check.due("top()", x.top(), 0);
        Check.due("bottom()", x.bottom(), 1);
        Check.due("fault(0)", x.fault(0), -1);
        Check.due("fault(1)", x.fault(1), -1);
        int[] toldFirst = {2, 0, 0, 60, 0, 1, 0, 0, 0};
        for (int what = 0; what < toldFirst.length; what++) {
            Check.told(x, "told(" + what + ")", x.told(what), toldFirst[what]);
        }
        for (int tray = 0; tray < 4; tray++) {
            Check.refused(x, "read(" + tray + ", 0)", x.read(tray, 0), 2);
        }
        Check.refused(x, "live(0)", x.live(0), 6);
        Check.refused(x, "lived(0)", x.lived(0), 6);
        Check.refused(x, "back()", x.back(), 6);
        Check.refused(x, "bestAt(0)", x.bestAt(0), 6);
        Check.refused(x, "beach(1)", x.beach(1), 1);
        Check.due("feed()", x.feed(0, 0, 0, 0, 0), 20);
        Check.due("NONE", LastPebble.NONE, -1);
    }

    private static void statusAndFraction() {
        LastPebble x = Check.on("beach 9 tide 20; finder a at 0 pace 1 pebbles 1; find x at 0 worth 6;"
                + "pebble of a on x at 18;");
        Check.refused(x, "told(9)", x.told(9), 1);
        x.top();
        x.bottom();
        x.fault(0);
        x.feed(0, 0, 0, 0, 0);
        Check.due("status() behind calls that have none", x.status(), 1);
        Check.granted(x, "odds(0, 4, 1)", x.odds(0, 4, 1));
        Check.fraction(x, "odds(0, 4, 1)", 27, 8);
        Check.denied(x, "odds(0, 17, 1)", x.odds(0, 17, 1), 1);
        Check.fraction(x, "odds(0, 17, 1)", 27, 8);
        Check.granted(x, "odds(0, 16, 1)", x.odds(0, 16, 1));
        Check.fraction(x, "odds(0, 16, 1)", 0, 1);
    }

    private static void laying() {
        LastPebble x = new LastPebble();
        Check.denied(x, "tray(-1, 0, 1)", x.tray(-1, 0, 1), 1);
        Check.denied(x, "tray(4, 0, 1)", x.tray(4, 0, 1), 1);
        Check.denied(x, "tray(0, -1, 1)", x.tray(0, -1, 1), 1);
        Check.denied(x, "tray(0, 4, 1)", x.tray(0, 4, 1), 1);
        Check.denied(x, "tray(0, 0, -1)", x.tray(0, 0, -1), 1);
        Check.denied(x, "tray(0, 0, 61)", x.tray(0, 0, 61), 1);
        Check.refused(x, "read(0, 0)", x.read(0, 0), 2);
        Check.granted(x, "tray(0, 0, 60)", x.tray(0, 0, 60));
        Check.told(x, "read(0, 59)", x.read(0, 59), 0);
        Check.refused(x, "read(0, 60)", x.read(0, 60), 3);
        Check.refused(x, "read(0, -1)", x.read(0, -1), 3);
        Check.refused(x, "read(-1, 0)", x.read(-1, 0), 1);
        Check.refused(x, "read(4, 0)", x.read(4, 0), 1);
        Check.granted(x, "write(0, 3, 7)", x.write(0, 3, 7));
        Check.granted(x, "write(0, 0, 7)", x.write(0, 0, 7));
        Check.granted(x, "tray(0, 1, 4)", x.tray(0, 1, 4));
        Check.told(x, "read(0, 0)", x.read(0, 0), 0);
        Check.told(x, "read(0, 3)", x.read(0, 3), 0);
        Check.refused(x, "read(0, 4)", x.read(0, 4), 3);
        Check.told(x, "read(0, 0) behind a refused call", x.read(0, 0), 0);
        Check.granted(x, "tray(3, 3, 0)", x.tray(3, 3, 0));
        Check.refused(x, "read(3, 0)", x.read(3, 0), 3);
    }

    private static void writing() {
        LastPebble x = new LastPebble();
        long[] values = {0x1234_5678_9abc_def0L, -1, 127, 128, 255, 256, 32768, 65535, 2147483648L, Long.MIN_VALUE};
        for (int sort = 0; sort < 4; sort++) {
            x.tray(sort, sort, values.length);
        }
        for (int k = 0; k < values.length; k++) {
            long v = values[k];
            long[] cut = {(byte) v, (short) v, (int) v, v};
            for (int sort = 0; sort < 4; sort++) {
                Check.granted(x, "write(" + sort + ", " + k + ", " + v + ")", x.write(sort, k, v));
                Check.told(x, "read(" + sort + ", " + k + ")", x.read(sort, k), cut[sort]);
            }
        }
        Check.denied(x, "write(4, 0, 1)", x.write(4, 0, 1), 1);
        Check.denied(x, "write(-1, 0, 1)", x.write(-1, 0, 1), 1);
        Check.denied(x, "write(0, 10, 1)", x.write(0, 10, 1), 3);
        Check.denied(x, "write(0, -1, 1)", x.write(0, -1, 1), 3);
        LastPebble y = new LastPebble();
        Check.denied(y, "write(0, -1, 1)", y.write(0, -1, 1), 2);
    }

    private static void pouring() {
        LastPebble x = new LastPebble();
        x.tray(0, 2, 6);
        x.tray(1, 2, 4);
        x.tray(2, 1, 6);
        for (int i = 0; i < 6; i++) {
            x.write(0, i, 10 + i);
        }
        Check.denied(x, "pour(4, 0, 1, 0, 1)", x.pour(4, 0, 1, 0, 1), 1);
        Check.denied(x, "pour(0, 0, -1, 0, 1)", x.pour(0, 0, -1, 0, 1), 1);
        Check.denied(x, "pour(0, -1, 1, 0, 1)", x.pour(0, -1, 1, 0, 1), 1);
        Check.denied(x, "pour(0, 0, 1, -1, 1)", x.pour(0, 0, 1, -1, 1), 1);
        Check.denied(x, "pour(0, 0, 1, 0, -1)", x.pour(0, 0, 1, 0, -1), 1);
        Check.denied(x, "pour(3, 9, 2, 0, 9)", x.pour(3, 9, 2, 0, 9), 2);
        Check.denied(x, "pour(0, 9, 3, 0, 9)", x.pour(0, 9, 3, 0, 9), 2);
        Check.denied(x, "pour(0, 9, 2, 0, 9)", x.pour(0, 9, 2, 0, 9), 8);
        Check.denied(x, "pour(0, 3, 1, 0, 4)", x.pour(0, 3, 1, 0, 4), 3);
        Check.denied(x, "pour(0, 0, 1, 1, 4)", x.pour(0, 0, 1, 1, 4), 3);
        Check.denied(x, "pour(0, 2147483647, 1, 0, 2147483647)", x.pour(0, 2147483647, 1, 0, 2147483647), 3);
        Check.granted(x, "pour(0, 2, 1, 0, 4)", x.pour(0, 2, 1, 0, 4));
        for (int i = 0; i < 4; i++) {
            Check.told(x, "read(1, " + i + ")", x.read(1, i), 12 + i);
        }
        Check.granted(x, "pour(0, 0, 0, 1, 5)", x.pour(0, 0, 0, 1, 5));
        int[] forth = {10, 10, 11, 12, 13, 14};
        for (int i = 0; i < 6; i++) {
            Check.told(x, "read(0, " + i + ")", x.read(0, i), forth[i]);
        }
        Check.granted(x, "pour(0, 2, 0, 0, 4)", x.pour(0, 2, 0, 0, 4));
        int[] nearer = {11, 12, 13, 14, 13, 14};
        for (int i = 0; i < 6; i++) {
            Check.told(x, "read(0, " + i + ")", x.read(0, i), nearer[i]);
        }
        Check.granted(x, "pour(0, 0, 1, 0, 0)", x.pour(0, 0, 1, 0, 0));
        Check.told(x, "read(1, 0)", x.read(1, 0), 12);
    }
}
