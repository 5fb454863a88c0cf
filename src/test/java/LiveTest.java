/** Promises 11 and 62 to 66: days, living them, marks. */
public final class LiveTest {
    private static final String BEACH = "beach 20 tide 30 moon 4;duel share;finder a at 0 pace 1 pebbles 3;"
            + "finder b at 10 pace 2 pebbles 2;find x at 4 worth 10;find y at 10 worth 7;find z at 15 worth 20;";

    public static void main(String[] args) {
        taking();
        faults();
        deeds();
        missed();
        tests();
        loops();
        stopsAndEnds();
        threeHundred();
        gulls();
        livedStays();
        means();
        marks();
        marksKeepAll();
        marksKeepDays();
        Check.end();
    }

    private static LastPebble with(String days, int steps) {
        LastPebble x = Check.on(BEACH);
        Check.told(x, "days " + days, Check.days(x, days), steps);
        Check.due("fault(0)", x.fault(0), 0);
        Check.due("fault(1)", x.fault(1), -1);
        return x;
    }

    private static void lived(LastPebble x, int seed, int steps, int... due) {
        Check.told(x, "live(" + seed + ")", x.live(seed), steps);
        for (int what = 0; what < due.length; what++) {
            Check.told(x, "lived(" + what + ")", x.lived(what), due[what]);
        }
    }

    private static String many(String one, int times) {
        return one.repeat(times);
    }

    private static void taking() {
        with("", 0);
        with("go a to 19;set a on x;wait b 240;lift b on z;gull 0;gull 16;wave 0;wave 40;tide;stop;", 10);
        with("when leads a<9999;end;when leads b>0;end;when leads a=3;end;when last a on z;end;when free x;end;", 5);
        with("loop 1;loop 99;loop 3;tide;end;end;end;", 4);
        with(many("tide;", 30), 30);
        with(many("loop 2;end;", 27), 27);
        LastPebble x = with("stop;", 1);
        Check.daysFault(x, "tide", 2, 4);
        lived(x, 0, 1, 0, 0, 0, 0, 0);
        Check.beach(x, BEACH);
        Check.refused(x, "live(0)", x.live(0), 6);
        Check.denied(x, "mean(0, 0, 1)", x.mean(0, 0, 1), 6);
    }

    private static void faults() {
        LastPebble x = Check.on(BEACH);
        Check.daysFault(x, "fly;", 2, 0);
        Check.daysFault(x, "Go", 1, 0);
        Check.daysFault(x, ";", 2, 0);
        Check.daysFault(x, "go x to 1;", 3, 3);
        Check.daysFault(x, "go at to 1;", 2, 3);
        Check.daysFault(x, "go abcdefghi to 1;", 2, 3);
        Check.daysFault(x, "go a to 20;", 4, 8);
        Check.daysFault(x, "go a on", 2, 5);
        Check.daysFault(x, "go a to 12345;", 1, 8);
        Check.daysFault(x, "go a to 3", 2, 9);
        Check.daysFault(x, "set a on a;", 3, 9);
        Check.daysFault(x, "set a to x;", 2, 6);
        Check.daysFault(x, "lift x on a;", 3, 5);
        Check.daysFault(x, "wait a 0;", 4, 7);
        Check.daysFault(x, "wait a 241;", 4, 7);
        Check.daysFault(x, "wait 3;", 2, 5);
        Check.daysFault(x, "gull 17;", 4, 5);
        Check.daysFault(x, "gull;", 2, 4);
        Check.daysFault(x, "wave 41;", 4, 5);
        Check.daysFault(x, "tide end", 2, 5);
        Check.daysFault(x, "loop 0;", 4, 5);
        Check.daysFault(x, "loop 100;", 4, 5);
        Check.daysFault(x, "end;", 2, 0);
        Check.daysFault(x, "loop 2;end;end;", 2, 11);
        Check.daysFault(x, "loop 2;", 2, 7);
        Check.daysFault(x, "loop 2;tide; ", 2, 13);
        Check.daysFault(x, "loop 2;end", 2, 10);
        Check.daysFault(x, "when free a;end;", 3, 10);
        Check.daysFault(x, "when free x;", 2, 12);
        Check.daysFault(x, "when a;", 2, 5);
        Check.daysFault(x, "when stop;", 2, 5);
        Check.daysFault(x, "when leads x", 3, 11);
        Check.daysFault(x, "when leads a;", 2, 12);
        Check.daysFault(x, "when leads a < 10000;", 1, 15);
        Check.daysFault(x, "when leads a < x;", 2, 15);
        Check.daysFault(x, "when last a x", 2, 12);
        Check.daysFault(x, "when last b on b", 3, 15);
        Check.daysFault(x, many("tide;", 30) + "end;", 2, 150);
        Check.daysFault(x, many("tide;", 30) + "stop", 6, 150);
        Check.daysFault(x, many("tide;", 30) + "x", 2, 150);
        Check.daysFault(x, many("loop 1;", 3) + "loop", 7, 21);
        Check.daysFault(x, many("loop 1;", 3) + "when", 7, 21);
        Check.daysFault(x, many("loop 1;", 3) + "end;loop 1;loop", 7, 32);
        Check.daysFault(x, many("tide;", 27) + many("loop 1;", 3) + "loop", 6, 156);
        Check.refused(x, "live(0)", x.live(0), 6);
    }

    private static void deeds() {
        LastPebble x = with("go a to 4;set a on x;wait a 3;set a on x;lift a on x;go b to 15;set b on z;wave 5;", 8);
        lived(x, 0, 8, 0, 0, 1, 0, 0);
        Check.due("clock of a", x.finder(0, 3), 7);
        Check.due("pebbles of a", x.finder(0, 2), 2);
        Check.due("on x", x.find(0, 2), 0);
        Check.due("on z", x.pebble(2, 0, 1), 10);
        lived(x, 0, 8, 0, 0, 1, 0, 0);
        Check.due("clock of a", x.finder(0, 3), 10);
        lived(x, 0, 8, 2, 0, 0, 0, 0);
        Check.due("clock of a", x.finder(0, 3), 13);
        Check.days(x, "go a to 0;wave 5;");
        lived(x, 0, 2, 0, 0, 0, 0, 0);
        Check.due("cell of a", x.finder(0, 0), 0);
        LastPebble y = with("go a to 4;set a on x;tide;go a to 4;set a on x;tide;", 6);
        lived(y, 0, 6, 0, 0, 0, 2, 0);
        Check.due("kept", y.finder(0, 4), 20);
        Check.due("day", y.told(6), 2);
        Check.due("there", y.told(7), 7);
    }

    private static void missed() {
        lived(with("set a on x;", 1), 0, 1, 1, 0, 0, 0, 0);
        lived(with("lift a on x;", 1), 0, 1, 1, 0, 0, 0, 0);
        lived(with("wait a 31;", 1), 0, 1, 1, 0, 0, 0, 0);
        lived(with("wait a 30;go a to 1;", 2), 0, 2, 1, 0, 0, 0, 0);
        lived(with("gull 16;", 1), 0, 1, 0, 0, 0, 0, 0);
        LastPebble x = with("tide;wave 3;", 2);
        x.tide();
        lived(x, 0, 2, 1, 0, 0, 0, 0);
        Check.due("there", x.told(7), 0);
        LastPebble y = with("loop 99;tide;end;tide;", 3);
        lived(y, 0, 101, 1, 0, 0, 99, 0);
        Check.due("day", y.told(6), 99);
        LastPebble z = new LastPebble();
        Check.told(z, "days", Check.days(z, "tide;gull 16;"), 2);
        lived(z, 0, 2, 1, 0, 0, 0, 0);
    }

    private static int waited(String test) {
        LastPebble x = Check.on(BEACH + "pebble of a on z at 3;pebble of b on z at 3;");
        Check.days(x, "when " + test + ";wait a 7;end;");
        x.live(0);
        return x.finder(0, 3);
    }

    private static void tests() {
        String[] hold = {"leads a=10", "leads a<11", "leads a>9", "last a on z", "last b on z", "free x"};
        String[] fail = {"leads a=9", "leads a<10", "leads a>10", "last a on x", "free z", "leads b=0"};
        for (int i = 0; i < 6; i++) {
            Check.due("when " + hold[i], waited(hold[i]), 7);
            Check.due("when " + fail[i], waited(fail[i]), 0);
        }
        LastPebble x = with("when free x;wait a 7;end;wait b 3;", 3);
        x.tide();
        lived(x, 0, 2, 0, 0, 0, 0, 0);
        Check.due("clock of a", x.finder(0, 3), 0);
        Check.due("clock of b", x.finder(1, 3), 3);
    }

    private static void loops() {
        LastPebble x = with("loop 3;wait a 1;loop 2;wait b 1;end;end;", 4);
        lived(x, 0, 13, 0, 0, 0, 0, 0);
        Check.due("clock of a", x.finder(0, 3), 3);
        Check.due("clock of b", x.finder(1, 3), 6);
        lived(with("loop 99;end;", 1), 0, 1, 0, 0, 0, 0, 0);
        lived(with("loop 99;loop 99;loop 99;end;end;end;", 3), 0, 300, 0, 0, 0, 0, 1);
    }

    private static void stopsAndEnds() {
        LastPebble x = with("loop 5;wait a 1;when leads a=0;stop;end;end;wait a 9;", 5);
        lived(x, 0, 4, 0, 0, 0, 0, 0);
        Check.due("clock of a", x.finder(0, 3), 1);
        LastPebble y = with("loop 5;wait a 1;when leads a>0;stop;end;end;wait a 9;", 5);
        lived(y, 0, 12, 0, 0, 0, 0, 0);
        Check.due("clock of a", y.finder(0, 3), 14);
    }

    private static void threeHundred() {
        lived(with("loop 99;wave 0;wave 0;wave 0;end;wave 0;wave 0;", 6), 0, 300, 0, 0, 0, 0, 0);
        lived(with("loop 99;wave 0;wave 0;wave 0;end;wave 0;wave 0;stop;", 7), 0, 300, 0, 0, 0, 0, 1);
        lived(with("loop 99;wave 0;wave 0;wave 0;end;wave 0;stop;wave 0;", 7), 0, 300, 0, 0, 0, 0, 0);
        lived(with("loop 99;wave 0;wave 0;wave 0;end;wave 0;loop 9;end;", 6), 0, 300, 0, 0, 0, 0, 0);
        lived(with("loop 99;wave 0;wave 0;wave 0;end;wave 0;loop 9;wave 0;end;", 7), 0, 300, 0, 0, 0, 0, 1);
        lived(with("loop 98;wave 0;wave 0;wave 0;end;wave 0;when leads a=9;wave 0;end;", 7), 0, 297, 0, 0, 0, 0, 0);
        lived(with("loop 99;wave 0;wave 0;wave 0;end;wave 0;when leads a=9;wave 0;end;", 7), 0, 300, 0, 0, 0, 0, 0);
        lived(with("loop 99;wave 0;wave 0;wave 0;end;wave 0;when leads a=0;wave 0;end;", 7), 0, 300, 0, 0, 0, 0, 1);
    }

    /** The draws of the document, told again. */
    private static int[] gullsBySeed(int seed, int sixteenths, int times, int[] on) {
        int s = seed;
        int carried = 0;
        for (int i = 0; i < times; i++) {
            s = (s * 2843 + 10709) % 65536;
            if (s / 8 % 16 < sixteenths) {
                s = (s * 2843 + 10709) % 65536;
                int from = s / 8 % on.length;
                s = (s * 2843 + 10709) % 65536;
                int to = s / 8 % (on.length - 1);
                to = to >= from ? to + 1 : to;
                if (on[from] > 0) {
                    on[from]--;
                    on[to]++;
                    carried++;
                }
            }
        }
        int[] told = new int[on.length + 1];
        told[0] = carried;
        System.arraycopy(on, 0, told, 1, on.length);
        return told;
    }

    private static void gulls() {
        for (int seed = 0; seed < 9999; seed += 411) {
            for (int sixteenths = 0; sixteenths <= 16; sixteenths += 4) {
                LastPebble x = Check.on(BEACH + many("pebble of a on z at 3;", 4) + "pebble of b on x at 3;");
                Check.days(x, "loop 9;gull " + sixteenths + ";end;");
                int[] due = gullsBySeed(seed, sixteenths, 9, new int[] {1, 0, 4});
                lived(x, seed, 10, 0, due[0], 0, 0, 0);
                for (int f = 0; f < 3; f++) {
                    Check.due("on find " + f + " with seed " + seed, x.find(f, 2), due[f + 1]);
                }
            }
        }
        LastPebble one = Check.on("beach 9 tide 9;finder a at 0 pace 1 pebbles 0;find x at 0 worth 3;"
                + "pebble of a on x at 0;");
        Check.days(one, "loop 9;gull 16;end;");
        lived(one, 5, 10, 0, 0, 0, 0, 0);
        Check.refused(one, "live(-1)", one.live(-1), 1);
        Check.refused(one, "live(10000)", one.live(10000), 1);
        lived(one, 9999, 10, 0, 0, 0, 0, 0);
        LastPebble two = Check.on("beach 9 tide 9;finder a at 0 pace 1 pebbles 0;find x at 0 worth 3;"
                + "find y at 0 worth 3;pebble of a on x at 0;pebble of a on y at 0;");
        Check.days(two, "loop 3;gull 16;end;");
        int[] due = gullsBySeed(5, 16, 3, new int[] {1, 1});
        lived(two, 5, 4, 0, due[0], 0, 0, 0);
        Check.due("on the first of two", two.find(0, 2), due[1]);
        Check.due("on the second of two", two.find(1, 2), due[2]);
        LastPebble gone = Check.on(BEACH + "pebble of a on x at 0;");
        Check.days(gone, "loop 9;gull 16;end;");
        gone.tide();
        lived(gone, 5, 10, 0, 0, 0, 0, 0);
    }

    private static void livedStays() {
        LastPebble x = with("set a on x;loop 99;wave 0;wave 0;wave 0;wave 0;end;", 6);
        Check.refused(x, "lived(0)", x.lived(0), 6);
        Check.refused(x, "lived(5)", x.lived(5), 1);
        Check.refused(x, "lived(-1)", x.lived(-1), 1);
        x.mark();
        x.live(3);
        x.back();
        Check.days(x, "tide;");
        Check.granted(x, "mean(0, 0, 3)", x.mean(0, 0, 3));
        Check.refused(x, "live(-1)", x.live(-1), 1);
        Check.beach(x, "beach 2 tide 2;");
        Check.refused(x, "live(1)", x.live(1), 6);
        Check.told(x, "lived(0)", x.lived(0), 1);
        Check.told(x, "lived(4)", x.lived(4), 1);
    }

    private static void means() {
        LastPebble x = Check.on(BEACH + many("pebble of a on z at 3;", 2) + "pebble of b on x at 3;");
        Check.days(x, "go a to 4;gull 8;gull 8;tide;");
        for (int many = 1; many <= 20; many++) {
            long kept = 0;
            for (int seed = 50; seed < 50 + many; seed++) {
                x.mark();
                x.live(seed);
                kept += x.finder(0, 4);
                x.back();
            }
            Check.granted(x, "mean(0, 50, " + many + ")", x.mean(0, 50, many));
            long divisor = divisor(kept, many);
            Check.fraction(x, "mean(0, 50, " + many + ")", kept / divisor, many / divisor);
        }
        Check.due("day", x.told(6), 0);
        Check.due("cell", x.finder(0, 0), 0);
        Check.due("pebbles", x.told(8), 3);
        Check.granted(x, "mean(0, 9980, 20)", x.mean(0, 9980, 20));
        Check.granted(x, "mean(1, 9999, 1)", x.mean(1, 9999, 1));
        Check.denied(x, "mean(0, 9981, 20)", x.mean(0, 9981, 20), 1);
        Check.denied(x, "mean(0, 10000, 1)", x.mean(0, 10000, 1), 1);
        Check.denied(x, "mean(0, -1, 1)", x.mean(0, -1, 1), 1);
        Check.denied(x, "mean(0, 0, 0)", x.mean(0, 0, 0), 1);
        Check.denied(x, "mean(0, 0, 21)", x.mean(0, 0, 21), 1);
        Check.denied(x, "mean(2, 0, 1)", x.mean(2, 0, 1), 1);
        Check.denied(x, "mean(-1, 0, 1)", x.mean(-1, 0, 1), 1);
        Check.denied(x, "mean(0, 2147483647, 20)", x.mean(0, 2147483647, 20), 1);
        LastPebble y = with("wave 3;", 1);
        Check.granted(y, "mean(0, 0, 7)", y.mean(0, 0, 7));
        Check.fraction(y, "mean(0, 0, 7)", 0, 1);
        LastPebble z = Check.on(BEACH);
        Check.denied(z, "mean(0, 0, 1)", z.mean(0, 0, 1), 6);
        Check.denied(z, "mean(2, 0, 1)", z.mean(2, 0, 1), 1);
    }

    private static long divisor(long a, long b) {
        return b == 0 ? a : divisor(b, a % b);
    }

    private static void marks() {
        LastPebble x = with("wait a 1;", 1);
        for (int i = 1; i <= 3; i++) {
            Check.told(x, "mark()", x.mark(), i);
            x.pass(0, i);
        }
        Check.refused(x, "mark()", x.mark(), 4);
        Check.due("clock", x.finder(0, 3), 6);
        int[] clocks = {3, 1, 0};
        for (int i = 0; i < 3; i++) {
            Check.told(x, "back()", x.back(), 2 - i);
            Check.due("clock", x.finder(0, 3), clocks[i]);
        }
        Check.refused(x, "back()", x.back(), 6);
        Check.due("clock", x.finder(0, 3), 0);
    }

    /** Days of all kinds are the same ones again when they come back from a mark. */
    private static void marksKeepDays() {
        LastPebble x = with("loop 3;wait a 2;when leads b<5;go b to 4;end;when last b on x;wait b 1;end;end;"
                + "when free x;set b on x;end;stop;wait a 9;", 10);
        x.mark();
        Check.days(x, "wave 1;wave 2;wave 3;wave 4;wave 5;wave 6;wave 7;wave 8;wave 9;wave 9;wave 9;wave 9;wave 9;");
        lived(x, 0, 13, 0, 0, 0, 0, 0);
        x.back();
        lived(x, 0, 16, 0, 0, 0, 0, 0);
        int[] due = {6, 12, 4, 1};
        int[] got = {x.finder(0, 3), x.finder(1, 3), x.finder(1, 0), x.find(0, 2)};
        for (int i = 0; i < due.length; i++) {
            Check.due("lived answer " + i, got[i], due[i]);
        }
        lived(x, 0, 15, 0, 0, 0, 0, 0);
        Check.due("clock of a", x.finder(0, 3), 12);
        Check.due("clock of b", x.finder(1, 3), 15);
        LastPebble y = with("wait a 1;", 1);
        Check.beach(y, BEACH);
        y.mark();
        Check.days(y, "wait a 2;");
        y.back();
        Check.refused(y, "live(0)", y.live(0), 6);
    }

    private static void marksKeepAll() {
        LastPebble x = Check.on(BEACH + "pebble of a on z at 3;pebble of b on x at 3;pebble of b on z at 1;");
        Check.days(x, "wait a 1;wait b 1;");
        x.tide();
        x.dawn();
        x.go(0, 4);
        x.set(0, 0);
        x.mark();
        x.gull(0, 1);
        x.tide();
        Check.beach(x, "beach 7 tide 8 moon 9;duel none;finder q at 2 pace 2 pebbles 2;find a at 1 worth 1;");
        Check.days(x, "go q to 1;tide;stop;");
        x.live(0);
        Check.told(x, "mark()", x.mark(), 2);
        x.dawn();
        x.back();
        Check.due("cells", x.told(0), 7);
        Check.told(x, "back()", x.back(), 0);
        int[] told = {20, 2, 3, 26, 4, 3, 1, 7, 1};
        for (int what = 0; what < told.length; what++) {
            Check.told(x, "told(" + what + ")", x.told(what), told[what]);
        }
        int[][] finders = {{4, 1, 3, 4, 20}, {10, 2, 4, 0, 10}};
        for (int f = 0; f < 2; f++) {
            for (int what = 0; what < 5; what++) {
                Check.told(x, "finder(" + f + ", " + what + ")", x.finder(f, what), finders[f][what]);
            }
        }
        int[][] finds = {{4, 10, 1}, {10, 7, 0}, {15, 20, 0}};
        for (int f = 0; f < 3; f++) {
            for (int what = 0; what < 3; what++) {
                Check.told(x, "find(" + f + ", " + what + ")", x.find(f, what), finds[f][what]);
            }
        }
        Check.due("pebble(0, 0, 1)", x.pebble(0, 0, 1), 4);
        Check.told(x, "live(0)", x.live(0), 2);
        Check.told(x, "days by the old names", Check.days(x, "go a to 3;set b on z;"), 2);
    }
}
