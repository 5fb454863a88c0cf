/** The edges of promises 62 to 66: living the DAYS, the mean, MARKS. */
public final class EdgeLiveTest {
    private static final String HEAD = "beach 20 tide 30;finder a at 4 pace 1 pebbles 3;"
            + "finder b at 10 pace 1 pebbles 0;find x at 4 worth 10;find y at 10 worth 7;";

    public static void main(String[] args) {
        liveBySeeds();
        liveWithoutDays();
        livedFromFirstToLast();
        livedIsOfTheLatestLife();
        whatCanNotBeIsMissed();
        tideOfDaysCanNotBe();
        gullByDrawsThatAreLess();
        gullsOntoAnotherOne();
        whenLeadsCompares();
        whenLastIsOneOfThem();
        whenFreeIsThere();
        loopsAsOften();
        threeHundredSteps();
        threeHundredAndWhatIsLeft();
        stopEndsIt();
        whatItComesToStays();
        meanOfOneToTwentySeeds();
        meanToTheLastSeed();
        meanAsksInItsOrder();
        meanOfWhatIsKept();
        threeMarks();
        backToTheLatestMark();
        backBehindANewBeach();
        backLeavesTheRest();
        Check.end();
    }

    private static LastPebble with(String days) {
        return with(HEAD, days);
    }

    private static LastPebble with(String beach, String days) {
        LastPebble x = Check.on(beach);
        Check.due("days " + days, Check.days(x, days) >= 0, true);
        return x;
    }

    /** What live() tells, and then lived() of 0 and on. */
    private static void lives(LastPebble x, String of, int seed, int... due) {
        Check.told(x, "live(" + seed + ") of " + of, x.live(seed), due[0]);
        for (int what = 1; what < due.length; what++) {
            Check.told(x, "lived(" + (what - 1) + ") of " + of, x.lived(what - 1), due[what]);
        }
    }

    private static void lives(String days, int... due) {
        lives(with(days), days, 0, due);
    }

    private static void liveBySeeds() {
        Edge.between("live(n)", Edge::full, (x, n) -> x.live(n), 0, 9999);
        for (int seed : new int[] {-1, 10000}) {
            // 1 ahead of 6
            Edge.refuses("live(" + seed + ") without DAYS", Edge::fresh, x -> x.live(seed), 1);
        }
    }

    private static void liveWithoutDays() {
        Edge.refuses("live(0) of a new object", Edge::fresh, x -> x.live(0), 6);
        Edge.refuses("live(0) of a new BEACH", Edge.on(HEAD), x -> x.live(0), 6);
        LastPebble x = with("tide;");
        Check.refused(x, "beach", Check.beach(x, "beach 1"), 9);
        lives(x, "the old BEACH", 0, 1, 0, 0, 0, 1, 0);
        Check.due("beach", Check.beach(x, HEAD), 2);
        Check.refused(x, "live(0)", x.live(0), 6);
        Check.refused(x, "days", Check.days(x, "tide"), 9);
        Check.refused(x, "live(0)", x.live(0), 6);
        lives("", 0, 0, 0, 0, 0, 0);
    }

    private static void livedFromFirstToLast() {
        Edge.between("lived(n)", Edge::full, (x, n) -> x.lived(n), 0, 4);
        // 1 ahead of 6
        Edge.outside("lived(n) ahead of any", Edge::fresh, (x, n) -> x.lived(n), 0, 4);
        for (int what = 0; what < 5; what++) {
            int k = what;
            Edge.refuses("lived(" + k + ") ahead of any", Edge::fresh, x -> x.lived(k), 6);
        }
    }

    private static void livedIsOfTheLatestLife() {
        LastPebble x = with("lift b on x;tide;wave 3;");
        lives(x, "the first", 0, 3, 1, 0, 0, 1, 0);
        Check.refused(x, "live(10000)", x.live(10000), 1);
        Check.granted(x, "mean(0, 0, 20)", x.mean(0, 0, 20));
        x.mark();
        Check.days(x, "wait a 1;");
        x.tide();
        x.back();
        Check.beach(x, "beach 2 tide 2;");
        Check.refused(x, "live(0)", x.live(0), 6);
        int[] due = {1, 0, 0, 1, 0};
        for (int what = 0; what < 5; what++) {
            Check.told(x, "lived(" + what + ")", x.lived(what), due[what]);
        }
        Check.days(x, "");
        lives(x, "the latest", 0, 0, 0, 0, 0, 0, 0);
        // Nothing is left of a life that was cut off.
        LastPebble y = with(both(), "gull 16;wave 40;lift a on x;tide;" + "loop 99;wave 0;wave 0;wave 0;end;");
        lives(y, "one that is cut off", 0, 300, 1, 1, 4, 1, 1);
        Check.days(y, "wave 0;");
        lives(y, "the one behind it", 0, 1, 0, 0, 0, 0, 0);
    }

    private static void whatCanNotBeIsMissed() {
        lives("go a to 0;go a to 19;go a to 18;", 3, 0);
        lives("go a to 19;go a to 3;", 2, 1);
        lives("go a to 19;go a to 4;", 2, 0);
        lives("wait a 30;wait a 1;", 2, 1);
        lives("wait a 31;", 1, 1);
        lives("wait a 240;wait a 30;", 2, 1);
        lives("set a on x;set a on x;set a on x;set a on x;", 4, 1);
        lives("set b on y;", 1, 1);
        lives("set a on y;", 1, 1);
        lives("lift a on x;set a on x;lift a on x;lift a on x;", 4, 2);
        lives("set a on x;go a to 3;lift a on x;", 3, 1);
        lives("gull 16;gull 16;gull 16;", 3, 0, 0);
        lives("wave 0;wave 40;", 2, 0, 0, 0);
        lives("set a on x;set a on x;wave 4;wave 5;", 4, 0, 0, 2);
        lives("set a on x;wave 5;set a on x;set a on x;wave 40;wave 40;", 6, 0, 0, 3);
        LastPebble x = with("wait a 31;wait a 30;go a to 3;wait b 1;");
        lives(x, "what is left out", 0, 4, 2);
        Check.due("CLOCK of a", x.finder(0, 3), 30);
        Check.due("CELL of a", x.finder(0, 0), 4);
        Check.due("CLOCK of b", x.finder(1, 3), 1);
        StringBuilder sixty = new StringBuilder(HEAD.replace("pebbles 3", "pebbles 20")
                .replace("at 10 pace 1 pebbles 0", "at 4 pace 1 pebbles 20"));
        sixty.append("pebble of a on y at 0;".repeat(30));
        LastPebble y = with(sixty.toString(), "loop 20;set a on x;set b on x;end;");
        lives(y, "sixty", 0, 41, 10);
        Check.due("in all", y.told(8), 60);
    }

    private static void tideOfDaysCanNotBe() {
        LastPebble x = with("tide;set a on x;");
        x.tide();
        // What is missed is missed whole: no dawn comes of it either.
        lives(x, "none there", 0, 2, 2, 0, 0, 0, 0);
        Check.due("there", x.told(7), 0);
        Check.due("the DAY", x.told(6), 1);
        LastPebble y = with("loop 98;tide;end;");
        lives(y, "to DAY 98", 0, 99, 0, 0, 0, 98, 0);
        Check.days(y, "tide;tide;");
        lives(y, "to DAY 99", 0, 2, 1, 0, 0, 1, 0);
        Check.due("the DAY", y.told(6), 99);
        Check.due("there", y.told(7), 3);
        lives(y, "on DAY 99", 0, 2, 2, 0, 0, 0, 0);
        LastPebble none = with("beach 2 tide 9;", "tide;");
        lives(none, "no FINDS", 0, 1, 1, 0, 0, 0, 0);
    }

    private static int drawn(int seed) {
        return (seed * 2843 + 10709) % 65536;
    }

    private static String both() {
        return HEAD + "pebble of a on x at 1;pebble of a on x at 2;pebble of b on y at 3;pebble of b on y at 4;";
    }

    /** Of two FINDS with PEBBLES each GULL that comes carries one. */
    private static void gullByDrawsThatAreLess() {
        for (int seed = 0; seed < 9999; seed += 37) {
            int draw = drawn(seed) / 8 % 16;
            lives(with(both(), "gull " + draw + ";"), "a draw of " + draw, seed, 1, 0, 0);
            lives(with(both(), "gull " + (draw + 1) + ";"), "a draw of " + draw, seed, 1, 0, 1);
            lives(with(both(), "gull 0;"), "gull 0", seed, 1, 0, 0);
            lives(with(both(), "gull 16;"), "gull 16", seed, 1, 0, 1);
        }
    }

    private static void gullsOntoAnotherOne() {
        for (int seed : new int[] {0, 1, 2, 3, 4, 5, 9998, 9999}) {
            LastPebble x = with(both(), "gull 16;");
            int from = drawn(drawn(seed)) / 8 % 2;
            lives(x, "gull 16", seed, 1, 0, 1, 0, 0, 0);
            Check.due("on FIND " + from, x.find(from, 2), 1);
            Check.due("on FIND " + (1 - from), x.find(1 - from, 2), 3);
        }
        String one = "beach 9 tide 9;finder a at 0 pace 1 pebbles 1;find x at 0 worth 1;pebble of a on x at 0;";
        lives(with(one, "loop 99;gull 16;end;"), "one FIND alone", 5, 100, 0, 0, 0, 0, 0);
        lives(with("beach 9 tide 9;", "loop 99;gull 16;end;"), "no FINDS", 5, 100, 0, 0, 0, 0, 0);
    }

    private static int waits(String beach, String test) {
        LastPebble x = with(beach, "when " + test + ";wait b 1;end;");
        x.live(0);
        return x.finder(1, 3);
    }

    private static void whenLeadsCompares() {
        String ten = HEAD + "pebble of a on x at 1;";
        String[] tests = {"a < 9", "a < 10", "a < 11", "a > 9", "a > 10", "a > 11", "a = 9", "a = 10", "a = 11",
            "b < 0", "b > 0", "b = 0", "a < 9999", "a > 9999"};
        int[] due = {0, 0, 1, 1, 0, 0, 0, 1, 0, 0, 0, 1, 1, 0};
        for (int i = 0; i < tests.length; i++) {
            Check.due("when leads " + tests[i], waits(ten, "leads " + tests[i]), due[i]);
        }
    }

    private static void whenLastIsOneOfThem() {
        String duel = HEAD + "pebble of a on x at 1;pebble of b on x at 1;pebble of a on y at 0;pebble of b on y at 1;";
        Check.due("a on x", waits(duel, "last a on x"), 1);
        Check.due("b on x", waits(duel, "last b on x"), 1);
        Check.due("a on y", waits(duel, "last a on y"), 0);
        Check.due("b on y", waits(duel, "last b on y"), 1);
        Check.due("a on what has none", waits(HEAD, "last a on x"), 0);
    }

    private static void whenFreeIsThere() {
        Check.due("free x", waits(HEAD, "free x"), 1);
        Check.due("free x", waits(HEAD + "pebble of a on x at 0;", "free x"), 0);
        Check.due("free y", waits(HEAD + "pebble of a on x at 0;", "free y"), 1);
        LastPebble x = with("when free x;wait b 1;end;when last a on x;wait b 2;end;when leads a=0;wait b 4;end;");
        x.tide();
        lives(x, "what is GONE", 0, 4, 0);
        Check.due("CLOCK of b", x.finder(1, 3), 4);
    }

    private static void loopsAsOften() {
        for (int rounds : new int[] {1, 2, 99}) {
            LastPebble x = with("beach 2 tide 240;finder a at 0 pace 1 pebbles 0;",
                    "loop " + rounds + ";wait a 1;end;");
            lives(x, "loop " + rounds, 0, 1 + rounds, 0, 0, 0, 0, 0);
            Check.due("CLOCK", x.finder(0, 3), rounds);
        }
        LastPebble x = with("loop 2;loop 2;loop 2;wait a 1;end;end;end;wait b 1;");
        lives(x, "loops within loops", 0, 1 + 2 + 4 + 8 + 1, 0, 0, 0, 0, 0);
        Check.due("CLOCK of a", x.finder(0, 3), 8);
        lives("loop 99;end;loop 99;end;", 2, 0, 0, 0, 0, 0);
        // As many STEPS and ends as a text can have.
        lives("loop 2;end;".repeat(27), 27, 0, 0, 0, 0, 0);
        LastPebble most = with("loop 2;end;".repeat(24) + "wave 0;" + "tide;".repeat(4) + "stop;");
        lives(most, "thirty STEPS, twenty-four ends", 0, 30, 0, 0, 0, 4, 0);
        LastPebble y = with("loop 3;when leads a=0;set a on x;end;wait a 1;end;");
        lives(y, "a when within a loop", 0, 1 + 2 + 1 + 2 + 2, 0, 0, 0, 0, 0);
        Check.due("on x", y.find(0, 2), 1);
    }

    /** A loop and its rounds, so many STEPS in all. */
    private static String steps(int many) {
        int rounds = (many - 1) / 5;
        return "loop " + rounds + ";" + "wave 0;".repeat(5) + "end;" + "wave 0;".repeat(many - 1 - 5 * rounds);
    }

    private static void threeHundredSteps() {
        lives(steps(299), 299, 0, 0, 0, 0, 0);
        lives(steps(300), 300, 0, 0, 0, 0, 0);
        lives(steps(301), 300, 0, 0, 0, 0, 1);
        LastPebble last = with(steps(299) + "wait b 1;");
        lives(last, "the last STEP", 0, 300, 0, 0, 0, 0, 0);
        Check.due("CLOCK of b", last.finder(1, 3), 1);
        LastPebble more = with(steps(300) + "wait b 1;");
        lives(more, "one STEP more", 0, 300, 0, 0, 0, 0, 1);
        Check.due("CLOCK of b", more.finder(1, 3), 0);
        lives("loop 99;loop 99;loop 99;end;end;end;", 300, 0, 0, 0, 0, 1);
        // MISSED ones are come to, too.
        lives("loop 99;lift b on x;lift b on x;lift b on x;lift b on x;end;", 300, 299, 0, 0, 0, 1);
    }

    private static void threeHundredAndWhatIsLeft() {
        // end is no STEP, nor are rounds without any
        lives(steps(298) + "loop 1;wave 0;end;", 300, 0, 0, 0, 0, 0);
        lives(steps(298) + "loop 2;wave 0;end;", 300, 0, 0, 0, 0, 1);
        lives(steps(299) + "loop 99;end;", 300, 0, 0, 0, 0, 0);
        lives(steps(299) + "loop 1;wave 0;end;", 300, 0, 0, 0, 0, 1);
        lives(steps(299) + "when leads a>0;wave 0;end;", 300, 0, 0, 0, 0, 0);
        lives(steps(299) + "when leads a=0;wave 0;end;", 300, 0, 0, 0, 0, 1);
        lives(steps(299) + "when leads a=0;end;", 300, 0, 0, 0, 0, 0);
        lives(steps(300) + "when leads a>0;wave 0;end;", 300, 0, 0, 0, 0, 1);
    }

    private static void stopEndsIt() {
        lives("stop;wave 0;", 1, 0, 0, 0, 0, 0);
        lives("loop 9;wave 0;stop;end;wave 0;", 3, 0, 0, 0, 0, 0);
        lives("when leads a>0;stop;end;wave 0;", 2, 0, 0, 0, 0, 0);
        lives(steps(299) + "stop;", 300, 0, 0, 0, 0, 0);
        lives(steps(299) + "stop;wave 0;", 300, 0, 0, 0, 0, 0);
        lives(steps(300) + "stop;", 300, 0, 0, 0, 0, 1);
    }

    private static void whatItComesToStays() {
        LastPebble x = with("wait a 7;set a on x;tide;wait a 1;");
        for (int day = 1; day <= 3; day++) {
            lives(x, "DAY " + day, 0, 4, 0, 0, 0, 1, 0);
            Check.due("the DAY", x.told(6), day);
            Check.due("KEPT", x.finder(0, 4), 10 * day);
            Check.due("CLOCK", x.finder(0, 3), 1);
            Check.due("there", x.told(7), 3);
        }
    }

    private static void meanOfOneToTwentySeeds() {
        Edge.between("mean(0, 0, n)", Edge::full, (x, n) -> Edge.flag(x.mean(0, 0, n)), 1, 20);
        Edge.between("mean(0, n, 1)", Edge::full, (x, n) -> Edge.flag(x.mean(0, n, 1)), 0, 9999);
        Edge.between("mean(n, 0, 1)", Edge::full, (x, n) -> Edge.flag(x.mean(n, 0, 1)), 0, 2);
        Edge.refuses("mean(0, 0, 1) of nothing", Edge::fresh, x -> Edge.flag(x.mean(0, 0, 1)), 1);
    }

    private static void meanToTheLastSeed() {
        for (int many = 1; many <= 20; many++) {
            int seeds = many;
            Edge.tells("mean of the last seeds", Edge::full, x -> Edge.flag(x.mean(0, 10000 - seeds, seeds)), 1);
            Edge.refuses("mean of one seed more", Edge::full, x -> Edge.flag(x.mean(0, 10001 - seeds, seeds)), 1);
        }
        Edge.refuses("mean(0, 2147483647, 20)", Edge::full, x -> Edge.flag(x.mean(0, Integer.MAX_VALUE, 20)), 1);
        Edge.refuses("mean(0, -1, 20)", Edge::full, x -> Edge.flag(x.mean(0, -1, 20)), 1);
    }

    private static void meanAsksInItsOrder() {
        Edge.refuses("mean(0, 0, 1) without DAYS", Edge.on(HEAD), x -> Edge.flag(x.mean(0, 0, 1)), 6);
        Edge.refuses("mean(2, 0, 1) without DAYS", Edge.on(HEAD), x -> Edge.flag(x.mean(2, 0, 1)), 1);
        Edge.refuses("mean(0, 0, 21) without DAYS", Edge.on(HEAD), x -> Edge.flag(x.mean(0, 0, 21)), 1);
        Edge.refuses("mean(0, 9999, 2) without DAYS", Edge.on(HEAD), x -> Edge.flag(x.mean(0, 9999, 2)), 1);
    }

    private static void meanOfWhatIsKept() {
        // The GULL that comes by a seed takes x from a to nobody.
        String days = "set a on x;gull 8;when free x;wait a 1;end;tide;";
        for (int seed = 0; seed < 100; seed += 7) {
            for (int many : new int[] {1, 2, 3, 20}) {
                long kept = 0;
                for (int i = seed; i < seed + many; i++) {
                    LastPebble x = with(days);
                    x.live(i);
                    kept += x.finder(0, 4);
                }
                LastPebble x = with(days);
                Check.granted(x, "mean(0, " + seed + ", " + many + ")", x.mean(0, seed, many));
                long divisor = java.math.BigInteger.valueOf(kept).gcd(java.math.BigInteger.valueOf(many)).longValue();
                Check.fraction(x, "mean(0, " + seed + ", " + many + ")", kept / divisor, many / divisor);
            }
        }
        String got = Shot.of(meant(Edge.full()), true).replaceFirst("fraction.*", "");
        Check.due("all stays", got.equals(Shot.of(Edge.full(), true).replaceFirst("fraction.*", "")), true);
        LastPebble x = Edge.gone();
        Check.granted(x, "mean(1, 5, 20)", x.mean(1, 5, 20));
        Check.fraction(x, "what is KEPT already", 3, 1);
    }

    private static LastPebble meant(LastPebble x) {
        Check.granted(x, "mean(0, 9980, 20)", x.mean(0, 9980, 20));
        return x;
    }

    private static LastPebble marked(int marks) {
        LastPebble x = with("wait b 1;");
        for (int i = 1; i <= marks; i++) {
            Check.told(x, "mark()", x.mark(), i);
            x.pass(0, i);
        }
        return x;
    }

    private static void threeMarks() {
        Edge.tells("mark() as the first", () -> marked(0), x -> x.mark(), 1);
        Edge.tells("mark() as the third", () -> marked(2), x -> x.mark(), 3);
        Edge.refuses("mark() as the fourth", () -> marked(3), x -> x.mark(), 4);
        Edge.refuses("back() to none", () -> marked(0), x -> x.back(), 6);
        Edge.refuses("back() of a new object", Edge::fresh, x -> x.back(), 6);
        LastPebble x = marked(3);
        x.back();
        Check.told(x, "mark() in place of the third", x.mark(), 3);
        Check.refused(x, "mark()", x.mark(), 4);
    }

    private static void backToTheLatestMark() {
        LastPebble x = marked(3);
        int[] clocks = {3, 1, 0};
        for (int i = 0; i < 3; i++) {
            Check.told(x, "back()", x.back(), 2 - i);
            Check.told(x, "CLOCK", x.finder(0, 3), clocks[i]);
        }
        Check.refused(x, "back()", x.back(), 6);
        Check.told(x, "CLOCK", x.finder(0, 3), 0);
        Check.told(x, "mark()", x.mark(), 1);
        Check.told(x, "back() at once", x.back(), 0);
        Check.told(x, "CLOCK", x.finder(0, 3), 0);
    }

    private static void backBehindANewBeach() {
        LastPebble x = marked(1);
        Check.told(x, "beach", Check.beach(x, "beach 2 tide 1;"), 0);
        Check.told(x, "mark()", x.mark(), 2);
        Check.told(x, "days", Check.days(x, "wave 1;wave 2;"), 2);
        Check.told(x, "back()", x.back(), 1);
        Check.refused(x, "live(0) of the BEACH without DAYS", x.live(0), 6);
        Check.told(x, "told(0)", x.told(0), 2);
        Check.told(x, "back()", x.back(), 0);
        Check.told(x, "told(0)", x.told(0), 20);
        Check.told(x, "told(2)", x.told(2), 2);
        lives(x, "the DAYS as they were", 0, 1, 0, 0, 0, 0, 0);
        Check.told(x, "CLOCK of b", x.finder(1, 3), 1);
        Check.told(x, "days by the NAMES as they were", Check.days(x, "lift b on y;"), 1);
        LastPebble empty = new LastPebble();
        empty.mark();
        Check.beach(empty, HEAD);
        Check.told(empty, "back()", empty.back(), 0);
        Check.told(empty, "told(0)", empty.told(0), 2);
        Check.told(empty, "told(1)", empty.told(1), 0);
        Check.told(empty, "told(3)", empty.told(3), 60);
    }

    /** What is neither of the BEACH nor of the DAYS stays as it has become. */
    private static void backLeavesTheRest() {
        LastPebble x = with("wait a 1;");
        x.mark();
        x.tray(1, 3, 1);
        x.write(1, 0, 5);
        x.set(0, 0);
        x.pass(0, 19);
        x.best(0);
        x.lift(0, 0);
        x.set(0, 0);
        x.live(0);
        Check.granted(x, "odds(0, 8, 0)", x.odds(0, 8, 0));
        Check.beach(x, "beach ?");
        x.feed(0, 0, 0, 0, 0);
        Check.told(x, "back()", x.back(), 0);
        Check.told(x, "read(1, 0)", x.read(1, 0), 5);
        Check.told(x, "bestAt(0)", x.bestAt(0), 0);
        Check.told(x, "lived(4)", x.lived(4), 0);
        Check.due("fault(0)", x.fault(0), 1);
        Check.due("feed", x.feed(0, 0, 0, 0, 0), 40);
        Check.fraction(x, "back()", 1, 2048);
        Check.told(x, "told(8)", x.told(8), 0);
        Check.told(x, "CLOCK", x.finder(0, 3), 0);
    }
}
