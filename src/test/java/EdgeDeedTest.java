/** The edges of promises 17 to 24: what is done. */
public final class EdgeDeedTest {
    private static final String SHORT = "beach 40 tide 9;finder a at 0 pace 1 pebbles 2;"
            + "finder b at 39 pace 9 pebbles 1;find x at 0 worth 5;find y at 0 worth 6;find z at 39 worth 7;";

    public static void main(String[] args) {
        findersAndFindsThatThereAre();
        goToTheTidesMinute();
        goFromEndToEnd();
        passToTheTidesMinute();
        setWithTheLastPebble();
        setTheSixtiethPebble();
        setWhereItIsAlone();
        setAsksInItsOrder();
        setStandsBehindThoseOfItsMinute();
        liftTheOneSetLast();
        liftAsksInItsOrder();
        gullOfTheOneThatStandsLast();
        gullOfNoPebble();
        waveToTheLastCell();
        waveBelowACell();
        tideGivesToWhoseItIs();
        tideSharesRoundedDown();
        tideIsOneMinuteAtLeast();
        tideWithoutFinds();
        tideOfDayNinetyNine();
        dawnIfNoneIsThere();
        Check.end();
    }

    private static void findersAndFindsThatThereAre() {
        Edge.between("go(n, 4)", Edge::full, (x, n) -> x.go(n, 4), 0, 2);
        Edge.between("go(0, n)", Edge::full, (x, n) -> x.go(0, n), 0, 19);
        Edge.between("pass(n, 1)", Edge::full, (x, n) -> x.pass(n, 1), 0, 2);
        Edge.outside("set(n, 0)", Edge::full, (x, n) -> x.set(n, 0), 0, 2);
        Edge.outside("set(0, n)", Edge::full, (x, n) -> x.set(0, n), 0, 2);
        Edge.outside("lift(n, 0)", Edge::full, (x, n) -> x.lift(n, 0), 0, 2);
        Edge.outside("lift(0, n)", Edge::full, (x, n) -> x.lift(0, n), 0, 2);
        Edge.outside("gull(n, 1)", Edge::full, (x, n) -> x.gull(n, 1), 0, 2);
        Edge.outside("gull(1, n)", Edge::full, (x, n) -> x.gull(1, n), 0, 2);
        Edge.refuses("go(0, 0) without finders", Edge::fresh, x -> x.go(0, 0), 1);
        Edge.refuses("pass(0, 1) without finders", Edge::fresh, x -> x.pass(0, 1), 1);
        Edge.refuses("set(0, 0) without finders", Edge::fresh, x -> x.set(0, 0), 1);
        Edge.refuses("lift(0, 0) without finders", Edge::fresh, x -> x.lift(0, 0), 1);
        Edge.refuses("gull(0, 1) without finds", Edge::fresh, x -> x.gull(0, 1), 1);
    }

    private static void goToTheTidesMinute() {
        Edge.tells("go(0, 9)", Edge.on(SHORT), x -> x.go(0, 9), 9);
        Edge.refuses("go(0, 10)", Edge.on(SHORT), x -> x.go(0, 10), 7);
        Edge.refuses("go(0, 39)", Edge.on(SHORT), x -> x.go(0, 39), 7);
        Edge.tells("go(1, 38)", Edge.on(SHORT), x -> x.go(1, 38), 9);
        Edge.refuses("go(1, 37)", Edge.on(SHORT), x -> x.go(1, 37), 7);
        LastPebble x = Check.on(SHORT);
        Check.told(x, "pass(0, 8)", x.pass(0, 8), 8);
        Check.refused(x, "go(0, 2)", x.go(0, 2), 7);
        Check.told(x, "CELL", x.finder(0, 0), 0);
        Check.told(x, "go(0, 1)", x.go(0, 1), 9);
        Check.refused(x, "go(0, 0)", x.go(0, 0), 7);
        Check.told(x, "where it is already", x.go(0, 1), 9);
        Check.told(x, "CELL", x.finder(0, 0), 1);
        Check.told(x, "CLOCK of the other", x.finder(1, 3), 0);
    }

    private static void goFromEndToEnd() {
        String wide = "beach 40 tide 240;finder a at 0 pace 6 pebbles 0;finder b at 39 pace 1 pebbles 0;"
                + "finder c at 39 pace 9 pebbles 0;";
        Edge.tells("go(0, 39)", Edge.on(wide), x -> x.go(0, 39), 234);
        Edge.tells("go(1, 0)", Edge.on(wide), x -> x.go(1, 0), 39);
        Edge.refuses("go(2, 0)", Edge.on(wide), x -> x.go(2, 0), 7);
        Edge.between("go(1, n) on 40 CELLS", Edge.on(wide), (x, n) -> x.go(1, n), 0, 39);
        Edge.between("go(0, n) on 2 CELLS", Edge.on("beach 2 tide 9;finder a at 0 pace 9 pebbles 0;"),
                (x, n) -> x.go(0, n), 0, 1);
        // A CELL that can't be goes ahead of a CLOCK that would come too late.
        Edge.refuses("go(2, 40)", Edge.on(wide), x -> x.go(2, 40), 1);
    }

    private static void passToTheTidesMinute() {
        Edge.between("pass(0, n)", Edge.on("beach 2 tide 240;finder a at 0 pace 1 pebbles 0;"),
                (x, n) -> x.pass(0, n), 1, 240);
        Edge.outside("pass(0, n) to tide 9", Edge.on(SHORT), (x, n) -> x.pass(0, n), 1, 240);
        Edge.tells("pass(0, 9)", Edge.on(SHORT), x -> x.pass(0, 9), 9);
        Edge.refuses("pass(0, 10)", Edge.on(SHORT), x -> x.pass(0, 10), 7);
        Edge.refuses("pass(0, 240)", Edge.on(SHORT), x -> x.pass(0, 240), 7);
        LastPebble x = Check.on(SHORT);
        x.pass(0, 9);
        Check.refused(x, "pass(0, 1)", x.pass(0, 1), 7);
        Check.told(x, "CLOCK", x.finder(0, 3), 9);
    }

    private static void setWithTheLastPebble() {
        LastPebble x = Check.on(SHORT);
        Check.told(x, "set(0, 0)", x.set(0, 0), 1);
        Check.told(x, "set(0, 1)", x.set(0, 1), 1);
        Check.told(x, "PEBBLES it has", x.finder(0, 2), 0);
        Check.refused(x, "set(0, 0)", x.set(0, 0), 6);
        Check.told(x, "lift(0, 0)", x.lift(0, 0), 0);
        Check.told(x, "set(0, 1)", x.set(0, 1), 2);
        x.pass(1, 9);
        Check.told(x, "set at the TIDE's minute", x.set(1, 2), 1);
        Check.told(x, "its minute", x.pebble(2, 0, 1), 9);
        Edge.refuses("set(2, 1) without any at first", Edge::full, y -> y.set(2, 1), 6);
    }

    /** Fifty and more that lie there, with ten that a and b each have left. */
    private static LastPebble pebbles(int lying) {
        StringBuilder text = new StringBuilder("beach 9 tide 9;finder a at 0 pace 1 pebbles 20;"
                + "finder b at 0 pace 1 pebbles 20;finder c at 1 pace 1 pebbles 0;find x at 0 worth 1;"
                + "find y at 0 worth 1;find z at 8 worth 1;");
        text.append("pebble of c on x at 1;".repeat(30));
        LastPebble x = Check.on(text.toString());
        for (int i = 30; i < lying; i++) {
            x.set(i % 2, 1);
        }
        return x;
    }

    private static void setTheSixtiethPebble() {
        Edge.tells("told(8)", () -> pebbles(59), x -> x.told(8), 59);
        Edge.tells("set(0, 1) as the sixtieth", () -> pebbles(59), x -> x.set(0, 1), 30);
        Edge.tells("set(0, 0) as the sixtieth", () -> pebbles(59), x -> x.set(0, 0), 31);
        Edge.refuses("set(0, 1) as the sixty-first", () -> pebbles(60), x -> x.set(0, 1), 4);
        Edge.refuses("set(1, 0) as the sixty-first", () -> pebbles(60), x -> x.set(1, 0), 4);
        LastPebble x = pebbles(60);
        Check.refused(x, "set(0, 1)", x.set(0, 1), 4);
        Check.told(x, "lift(0, 1)", x.lift(0, 1), 0);
        Check.told(x, "set(1, 1)", x.set(1, 1), 30);
        Check.refused(x, "set(1, 1)", x.set(1, 1), 4);
        for (int i = 0; i < 30; i++) {
            Check.due("gull(1, 0)", x.gull(1, 0) >= 0, true);
        }
        Check.told(x, "all on one", x.find(0, 2), 60);
        Check.told(x, "the last of all", x.pebble(0, 59, 1), 1);
        Check.refused(x, "set(1, 1)", x.set(1, 1), 4);
        Check.told(x, "wave(1)", x.wave(1), 60);
        Check.told(x, "set(1, 1)", x.set(1, 1), 1);
        Check.told(x, "told(8)", x.told(8), 1);
    }

    private static void setWhereItIsAlone() {
        Edge.refuses("set(0, 2) from afar", Edge.on(SHORT), x -> x.set(0, 2), 7);
        Edge.refuses("set(1, 0) from afar", Edge.on(SHORT), x -> x.set(1, 0), 7);
        Edge.refuses("set(0, 0) one CELL off", Edge.on("beach 2 tide 9;finder a at 1 pace 1 pebbles 1;"
                + "find x at 0 worth 1;"), x -> x.set(0, 0), 7);
        Edge.refuses("set(0, 0) of what is GONE", Edge::gone, x -> x.set(0, 0), 7);
        LastPebble x = Edge.gone();
        x.dawn();
        Check.told(x, "set(0, 0) of what is there again", x.set(0, 0), 1);
    }

    /** First 1, then 4, then 6, then 7: each with all behind it holding, too. */
    private static void setAsksInItsOrder() {
        Edge.refuses("set(3, 0) of sixty", () -> pebbles(60), x -> x.set(3, 0), 1);
        Edge.refuses("set(2, 3) of sixty", () -> pebbles(60), x -> x.set(2, 3), 1);
        Edge.refuses("set(2, 2) of sixty", () -> pebbles(60), x -> x.set(2, 2), 4);
        Edge.refuses("set(2, 2) of fifty-nine", () -> pebbles(59), x -> x.set(2, 2), 6);
        Edge.refuses("set(0, 2) of fifty-nine", () -> pebbles(59), x -> x.set(0, 2), 7);
        Edge.refuses("set(2, 1) of what is GONE", Edge::gone, x -> x.set(2, 1), 6);
    }

    private static void stands(LastPebble x, int find, String due) {
        StringBuilder got = new StringBuilder();
        for (int k = 0; x.pebble(find, k, 0) != LastPebble.NONE; k++) {
            got.append((char) ('a' + x.pebble(find, k, 0))).append(x.pebble(find, k, 1)).append(' ');
        }
        Check.due("stands " + got + "for " + due, got.toString().equals(due), true);
    }

    private static void setStandsBehindThoseOfItsMinute() {
        LastPebble x = Check.on("beach 9 tide 9;finder a at 0 pace 1 pebbles 5;finder b at 0 pace 1 pebbles 5;"
                + "find x at 0 worth 1;pebble of b on x at 4;pebble of a on x at 4;pebble of b on x at 0;");
        stands(x, 0, "b0 b4 a4 ");
        Check.told(x, "set(0, 0)", x.set(0, 0), 4);
        stands(x, 0, "b0 a0 b4 a4 ");
        x.pass(1, 4);
        Check.told(x, "set(1, 0)", x.set(1, 0), 5);
        stands(x, 0, "b0 a0 b4 a4 b4 ");
        x.pass(0, 3);
        Check.told(x, "set(0, 0)", x.set(0, 0), 6);
        stands(x, 0, "b0 a0 a3 b4 a4 b4 ");
        x.pass(0, 6);
        Check.told(x, "set(0, 0)", x.set(0, 0), 7);
        stands(x, 0, "b0 a0 a3 b4 a4 b4 a9 ");
    }

    private static void liftTheOneSetLast() {
        LastPebble x = Check.on("beach 9 tide 9;finder a at 0 pace 1 pebbles 0;finder b at 0 pace 1 pebbles 20;"
                + "find x at 0 worth 1;pebble of a on x at 4;pebble of b on x at 4;pebble of a on x at 4;"
                + "pebble of a on x at 0;pebble of b on x at 9;");
        Check.told(x, "lift(0, 0)", x.lift(0, 0), 4);
        stands(x, 0, "a0 a4 b4 b9 ");
        Check.told(x, "lift(1, 0)", x.lift(1, 0), 9);
        Check.told(x, "PEBBLES of b, more than at first", x.finder(1, 2), 21);
        stands(x, 0, "a0 a4 b4 ");
        Check.told(x, "lift(0, 0)", x.lift(0, 0), 4);
        Check.told(x, "lift(0, 0)", x.lift(0, 0), 0);
        stands(x, 0, "b4 ");
        Check.refused(x, "lift(0, 0)", x.lift(0, 0), 6);
        Check.told(x, "lift(1, 0)", x.lift(1, 0), 4);
        stands(x, 0, "");
        Check.refused(x, "lift(1, 0)", x.lift(1, 0), 6);
        Check.told(x, "CLOCK", x.finder(0, 3), 0);
    }

    private static void liftAsksInItsOrder() {
        Edge.refuses("lift(0, 0) of none", Edge::full, x -> x.lift(0, 0), 6);
        Edge.refuses("lift(1, 2) of none, from afar", Edge::full, x -> x.lift(1, 2), 6);
        Edge.refuses("lift(2, 1) of others' ones", Edge::full, x -> x.lift(2, 1), 6);
        Edge.refuses("lift(0, 1) from afar", Edge::full, x -> x.lift(0, 1), 7);
        Edge.refuses("lift(0, 2) from afar", Edge::full, x -> x.lift(0, 2), 7);
        Edge.tells("lift(1, 1)", Edge::full, x -> x.lift(1, 1), 5);
        Edge.refuses("lift(1, 1) of what is GONE", Edge::gone, x -> x.lift(1, 1), 6);
    }

    private static void gullOfTheOneThatStandsLast() {
        LastPebble x = Check.on("beach 9 tide 9;finder a at 8 pace 1 pebbles 0;finder b at 8 pace 1 pebbles 0;"
                + "find x at 0 worth 1;find y at 1 worth 1;pebble of a on x at 9;pebble of b on x at 4;"
                + "pebble of a on x at 4;pebble of a on y at 4;pebble of b on y at 5;");
        Check.told(x, "gull(0, 1)", x.gull(0, 1), 0);
        stands(x, 1, "a4 b5 a9 ");
        stands(x, 0, "b4 a4 ");
        Check.told(x, "gull(0, 1)", x.gull(0, 1), 0);
        Check.told(x, "gull(0, 1)", x.gull(0, 1), 1);
        stands(x, 1, "a4 a4 b4 b5 a9 ");
        Check.refused(x, "gull(0, 1)", x.gull(0, 1), 6);
        for (int i = 0; i < 5; i++) {
            Check.due("gull(1, 0)", x.gull(1, 0) >= 0, true);
        }
        Check.refused(x, "gull(1, 0)", x.gull(1, 0), 6);
        stands(x, 0, "b4 a4 a4 b5 a9 ");
        Check.told(x, "told(8)", x.told(8), 5);
    }

    private static void gullOfNoPebble() {
        for (int f = 0; f < 3; f++) {
            int same = f;
            Edge.refuses("gull onto itself", Edge::full, x -> x.gull(same, same), 1);
        }
        Edge.refuses("gull(0, 1)", Edge::full, x -> x.gull(0, 1), 6);
        Edge.refuses("gull(2, 1) of what is GONE", Edge::gone, x -> x.gull(2, 1), 6);
        Edge.refuses("gull(3, 3)", Edge::full, x -> x.gull(3, 3), 1);
        Edge.tells("gull(2, 0)", Edge::full, x -> x.gull(2, 0), 0);
    }

    private static void waveToTheLastCell() {
        Edge.between("wave(n)", Edge::full, (x, n) -> x.wave(n), 0, 40);
        Edge.between("wave(n) of nothing", Edge::fresh, (x, n) -> x.wave(n), 0, 40);
        String ends = "beach 40 tide 9;finder a at 0 pace 1 pebbles 3;find x at 0 worth 1;find y at 39 worth 1;"
                + "pebble of a on x at 9;pebble of a on y at 9;pebble of a on y at 9;";
        Edge.tells("wave(0)", Edge.on(ends), x -> x.wave(0), 0);
        Edge.tells("wave(1)", Edge.on(ends), x -> x.wave(1), 1);
        Edge.tells("wave(39)", Edge.on(ends), x -> x.wave(39), 1);
        Edge.tells("wave(40)", Edge.on(ends), x -> x.wave(40), 3);
        Edge.tells("wave(40) behind the tide", Edge::gone, x -> x.wave(40), 0);
    }

    private static void waveBelowACell() {
        LastPebble x = Edge.full();
        Check.told(x, "wave(10)", x.wave(10), 0);
        Check.told(x, "wave(11)", x.wave(11), 2);
        Check.told(x, "wave(11)", x.wave(11), 0);
        Check.told(x, "told(8)", x.told(8), 1);
        Check.told(x, "told(7)", x.told(7), 7);
        Check.told(x, "wave(15)", x.wave(15), 0);
        Check.told(x, "wave(16)", x.wave(16), 1);
        Check.told(x, "the sea's", x.finder(0, 2) + x.finder(1, 2) + x.finder(2, 2), 5);
        Check.told(x, "tide()", x.tide(), 1);
        Check.told(x, "the sea's", x.finder(0, 2) + x.finder(1, 2) + x.finder(2, 2), 5);
        Check.told(x, "KEPT", x.finder(0, 4) + x.finder(1, 4), 0);
    }

    private static void keptOf(String duel, int worth, String pebbles, int a, int b, int c) {
        LastPebble x = Check.on("beach 9 tide 9;" + duel + "finder a at 0 pace 1 pebbles 0;"
                + "finder b at 0 pace 1 pebbles 0;finder c at 0 pace 1 pebbles 0;find x at 0 worth " + worth + ";"
                + pebbles);
        Check.told(x, "tide()", x.tide(), 1);
        int[] due = {a, b, c};
        for (int f = 0; f < 3; f++) {
            Check.told(x, "KEPT by " + f + " of " + worth + " with " + duel, x.finder(f, 4), due[f]);
        }
    }

    private static void tideGivesToWhoseItIs() {
        String two = "pebble of c on x at 9;pebble of b on x at 9;pebble of a on x at 8;";
        keptOf("", 999, "", 0, 0, 0);
        keptOf("", 999, "pebble of c on x at 0;", 0, 0, 999);
        keptOf("duel none;", 999, "pebble of c on x at 0;pebble of c on x at 0;", 0, 0, 999);
        keptOf("", 999, two, 0, 999, 0);
        keptOf("duel none;", 999, two, 0, 0, 0);
        keptOf("duel first;", 999, two, 0, 999, 0);
        keptOf("duel last;", 999, two, 0, 0, 999);
        keptOf("duel share;", 999, two, 0, 499, 499);
        keptOf("", 0, two, 0, 0, 0);
    }

    private static void tideSharesRoundedDown() {
        String three = "pebble of a on x at 9;pebble of c on x at 9;pebble of b on x at 9;pebble of c on x at 9;";
        int[] worths = {0, 1, 2, 3, 4, 5, 6, 999};
        for (int worth : worths) {
            keptOf("duel share;", worth, three, worth / 3, worth / 3, worth / 3);
        }
        keptOf("duel share;", 1, "pebble of a on x at 9;pebble of c on x at 9;", 0, 0, 0);
    }

    private static void tideIsOneMinuteAtLeast() {
        int[][] tides = {{1, 60}, {60, 60}, {61, 60}, {62, 60}, {240, 60}, {240, 0}, {2, 1}};
        for (int[] tide : tides) {
            LastPebble x = Check.on("beach 9 tide " + tide[0] + " moon " + tide[1] + ";finder a at 3 pace 1 pebbles 1;"
                    + "find x at 3 worth 1;");
            x.pass(0, 1);
            x.set(0, 0);
            for (int day = 1; day <= 5; day++) {
                Check.told(x, "tide()", x.tide(), day);
                Check.told(x, "the TIDE's minute", x.told(3), Math.max(1, tide[0] - day * tide[1]));
                Check.told(x, "the DAY", x.told(6), day);
                Check.told(x, "CLOCK", x.finder(0, 3), 0);
                Check.told(x, "CELL", x.finder(0, 0), 3);
                Check.told(x, "PEBBLES", x.finder(0, 2), 1);
                Check.told(x, "there", x.told(7), 0);
                Check.told(x, "dawn()", x.dawn(), 1);
            }
            Check.told(x, "pass(0, 1)", x.pass(0, 1), 1);
        }
    }

    private static void tideWithoutFinds() {
        Edge.refuses("tide() of none", Edge::fresh, x -> x.tide(), 7);
        Edge.refuses("tide() behind the tide", Edge::gone, x -> x.tide(), 7);
        Edge.tells("tide()", Edge::full, x -> x.tide(), 1);
        Edge.tells("tide() behind the dawn", Edge::gone, x -> {
            x.dawn();
            return x.tide();
        }, 2);
    }

    private static LastPebble dayOf(int day, boolean dawn) {
        LastPebble x = Check.on("beach 9 tide 200 moon 1;finder a at 0 pace 1 pebbles 1;find x at 0 worth 999;");
        for (int i = 0; i < day; i++) {
            x.dawn();
            x.set(0, 0);
            x.tide();
        }
        if (dawn) {
            x.dawn();
        }
        return x;
    }

    private static void tideOfDayNinetyNine() {
        Edge.tells("tide() of DAY 98", () -> dayOf(98, true), x -> x.tide(), 99);
        Edge.refuses("tide() of DAY 99", () -> dayOf(99, true), x -> x.tide(), 4);
        // 4 ahead of 7
        Edge.refuses("tide() of DAY 99 without finds", () -> dayOf(99, false), x -> x.tide(), 4);
        Edge.refuses("tide() of DAY 98 without finds", () -> dayOf(98, false), x -> x.tide(), 7);
        LastPebble x = dayOf(99, true);
        Check.told(x, "the DAY", x.told(6), 99);
        Check.told(x, "the TIDE's minute", x.told(3), 101);
        Check.told(x, "KEPT", x.finder(0, 4), 99 * 999);
        Check.told(x, "set(0, 0) on DAY 99", x.set(0, 0), 1);
        Check.refused(x, "tide()", x.tide(), 4);
        Check.told(x, "beach", Check.beach(x, "beach 9 tide 9;find x at 0 worth 1;"), 1);
        Check.told(x, "tide() of a new BEACH", x.tide(), 1);
    }

    private static void dawnIfNoneIsThere() {
        Edge.refuses("dawn() of DAY 0", Edge::full, x -> x.dawn(), 7);
        Edge.tells("dawn() of no finds", Edge::fresh, x -> x.dawn(), 0);
        Edge.tells("dawn() behind the tide", Edge::gone, x -> x.dawn(), 3);
        LastPebble x = Edge.gone();
        x.dawn();
        Check.refused(x, "dawn() again", x.dawn(), 7);
        Check.told(x, "there", x.told(7), 7);
        Check.told(x, "PEBBLES", x.told(8), 0);
        Check.told(x, "the DAY", x.told(6), 1);
        LastPebble y = new LastPebble();
        y.dawn();
        Check.told(y, "dawn() of no finds again", y.dawn(), 0);
    }
}
