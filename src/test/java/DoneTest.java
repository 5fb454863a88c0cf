import java.util.Random;

/**
 * What calls tell of what could be, against what comes of it when it is done: LEADS by the tide, SOONEST by walking,
 * waiting and setting, LATENESS by a beach with a later tide, and so on, on beaches by chance.
 */
public final class DoneTest {
    private static final int SEEDS = 300;
    private static final String[] DUELS = {"none", "first", "last", "share"};

    private final long seed;
    private final String start;
    private final String rest;
    private final int tide;

    private DoneTest(long seed) {
        this.seed = seed;
        Random random = new Random(seed);
        int cells = 2 + random.nextInt(random.nextBoolean() ? 39 : 8);
        tide = 1 + random.nextInt(random.nextBoolean() ? 30 : 120);
        start = "beach " + cells + " tide ";
        StringBuilder text = new StringBuilder(" moon " + random.nextInt(9) + ";duel " + DUELS[random.nextInt(4)] + ";");
        int finders = 1 + random.nextInt(4);
        int finds = 1 + random.nextInt(6);
        for (int i = 0; i < finders; i++) {
            text.append("finder f").append((char) ('a' + i)).append(" at ").append(random.nextInt(cells))
                    .append(" pace ").append(1 + random.nextInt(3)).append(" pebbles ").append(random.nextInt(5))
                    .append(';');
        }
        for (int i = 0; i < finds; i++) {
            text.append("find d").append((char) ('a' + i)).append(" at ").append(random.nextInt(cells))
                    .append(" worth ").append(random.nextInt(random.nextBoolean() ? 4 : 1000)).append(';');
        }
        for (int i = random.nextInt(9); i > 0; i--) {
            text.append("pebble of f").append((char) ('a' + random.nextInt(finders))).append(" on d")
                    .append((char) ('a' + random.nextInt(finds))).append(" at ")
                    .append(tide - random.nextInt(Math.min(tide, 6) + 1)).append(';');
        }
        rest = text.toString();
    }

    public static void main(String[] args) {
        for (long seed = 0; seed < SEEDS; seed++) {
            DoneTest test = new DoneTest(seed);
            test.tide();
            test.soonestAndGain();
            test.best();
            test.lateness();
            test.gulls();
            test.mean();
            test.boys();
            test.crowd();
        }
        Check.end();
    }

    private LastPebble make() {
        return make(0);
    }

    /** The beach of this seed with a tide so much later, some minutes on. */
    private LastPebble make(int later) {
        LastPebble x = Check.on(start + (tide + later) + rest);
        Random random = new Random(seed + 1000);
        for (int i = random.nextInt(4); i > 0; i--) {
            int finder = random.nextInt(x.told(1));
            int find = random.nextInt(x.told(2));
            int clock = x.finder(finder, 3);
            // What a later tide would let it do must not be done, so that the beaches are alike but for the tide.
            if (clock + x.walk(finder, find) <= tide) {
                x.go(finder, x.find(find, 0));
                x.set(finder, find);
            }
        }
        return x;
    }

    private String of(String call, int... numbers) {
        return "seed " + seed + ": " + call + java.util.Arrays.toString(numbers);
    }

    // LEADS, PART, WHOSE, OPEN, RANK: what each would KEEP, if the tide came.
    private void tide() {
        LastPebble x = make();
        int finders = x.told(1);
        int[] leads = new int[finders];
        int[] pebbles = new int[finders];
        int[] parts = new int[finders];
        for (int i = 0; i < finders; i++) {
            leads[i] = x.leads(i);
            pebbles[i] = x.finder(i, 2) + x.strewn(i);
        }
        int sea = 0;
        for (int d = 0; d < x.told(2); d++) {
            int k = 0;
            for (int i = 0; i < finders; i++) {
                if ((x.last(d) >> i & 1) == 1) {
                    parts[i] += x.part(d, k);
                    k++;
                }
            }
            Check.due(of("part", d, k), x.part(d, k), LastPebble.NONE);
            sea += x.whose(d) == 0 ? x.find(d, 1) : 0;
        }
        Check.due(of("open"), x.open(), sea);
        int[] behind = new int[finders];
        for (int i = 0; i < finders; i++) {
            behind[i] = x.behind(x.ranked(i));
            Check.due(of("behind", i), behind[i] >= (i == 0 ? 0 : behind[i - 1]), true);
        }
        Check.due(of("behind the first"), behind[0], 0);
        int next = x.tideIn(1);
        int first = x.leader();
        x.tide();
        for (int i = 0; i < finders; i++) {
            Check.due(of("leads", i), leads[i], x.finder(i, 4));
            Check.due(of("parts", i), parts[i], x.finder(i, 4));
            Check.due(of("pebbles behind the tide", i), x.finder(i, 2), pebbles[i]);
            Check.due(of("leader", i), x.finder(i, 4) <= x.finder(first, 4), true);
        }
        Check.due(of("tideIn", 1), next, x.told(3));
    }

    private void soonestAndGain() {
        LastPebble x = make();
        for (int i = 0; i < x.told(1); i++) {
            for (int d = 0; d < x.told(2); d++) {
                int soonest = x.soonest(i, d);
                int gain = x.gain(i, d);
                Check.due(of("threat", d, i), (x.threat(d) >> i & 1) == 1, soonest != LastPebble.NONE);
                if (soonest == LastPebble.NONE) {
                    Check.due(of("last by the tide's minute", i, d), setAt(make(), i, d, tide), false);
                } else {
                    Check.due(of("last ahead of the soonest", i, d), setAt(make(), i, d, soonest - 1), false);
                    LastPebble y = make();
                    int lead = y.leads(i);
                    Check.due(of("last at the soonest", i, d), setAt(y, i, d, soonest), true);
                    Check.due(of("gain", i, d), gain, y.leads(i) - lead);
                }
            }
        }
    }

    /** Whether the pebble could be set in this minute, and was alone the last one but for the finder's own. */
    private static boolean setAt(LastPebble x, int finder, int find, int minute) {
        if (x.go(finder, x.find(find, 0)) == LastPebble.NONE || x.finder(finder, 3) > minute) {
            return false;
        }
        int wait = minute - x.finder(finder, 3);
        if (wait > 0 && x.pass(finder, wait) == LastPebble.NONE || x.set(finder, find) == LastPebble.NONE) {
            return false;
        }
        boolean alone = true;
        for (int k = 0; k < x.find(find, 2); k++) {
            alone &= x.pebble(find, k, 0) == finder || x.pebble(find, k, 1) < minute;
        }
        return alone;
    }

    /** The row can be gone, and no row of two finds is worth more. */
    private void best() {
        LastPebble x = make();
        for (int i = 0; i < x.told(1); i++) {
            int best = x.best(i);
            LastPebble y = make();
            int worth = 0;
            for (int k = 0; x.bestAt(k) != LastPebble.NONE; k++) {
                int d = x.bestAt(k);
                int soonest = y.soonest(i, d);
                Check.due(of("the row's " + k, i, d), setAt(y, i, d, soonest), true);
                worth += y.find(d, 1);
            }
            Check.due(of("best", i), best, worth);
            pairsAreNoBetter(x, i, best);
        }
    }

    private void pairsAreNoBetter(LastPebble x, int finder, int best) {
        for (int d = 0; d < x.told(2); d++) {
            LastPebble y = make();
            int soonest = y.soonest(finder, d);
            if (soonest == LastPebble.NONE) {
                continue;
            }
            setAt(y, finder, d, soonest);
            int more = 0;
            for (int e = 0; e < x.told(2); e++) {
                if (e != d && y.soonest(finder, e) != LastPebble.NONE) {
                    more = Math.max(more, y.find(e, 1));
                }
            }
            Check.due(of("a pair is no better than best", finder, d), y.find(d, 1) + more <= best, true);
        }
    }

    private void lateness() {
        for (int later : new int[] {0, 1, 5, 60, 240 - tide}) {
            LastPebble x = make();
            LastPebble y = make(later);
            for (int i = 0; i < x.told(1); i++) {
                Check.due(of("lateness", i, later), x.lateness(i, later), y.best(i) - x.best(i));
            }
        }
    }

    /** What some gulls brought about is told: the fewest are no more, and as many are enough. */
    private void gulls() {
        Random random = new Random(seed + 2000);
        LastPebble x = make();
        LastPebble y = make();
        int finds = x.told(2);
        int came = 0;
        for (int i = random.nextInt(6); i > 0 && finds > 1; i--) {
            came += y.gull(random.nextInt(finds), random.nextInt(finds)) == LastPebble.NONE ? 0 : 1;
        }
        x.tray(0, random.nextInt(4), finds);
        for (int d = 0; d < finds; d++) {
            x.write(0, d, y.find(d, 2));
        }
        int told = x.gulls(0);
        Check.due(of("gulls", came), told >= 0 && told <= came, true);
        for (int left = told; left > 0; left--) {
            Check.due(of("gulls left"), x.gulls(0), left);
            Check.due(of("one gull of them"), x.gull(differs(x, y, 1), differs(x, y, -1)) != LastPebble.NONE, true);
        }
        for (int d = 0; d < finds; d++) {
            Check.due(of("pebbles behind the gulls", d), x.find(d, 2), y.find(d, 2));
        }
    }

    /** A find that has more pebbles on the one beach than on the other, or fewer. */
    private static int differs(LastPebble x, LastPebble y, int sign) {
        for (int d = 0; d < x.told(2); d++) {
            if (Integer.signum(x.find(d, 2) - y.find(d, 2)) == sign) {
                return d;
            }
        }
        return LastPebble.NONE;
    }

    private void mean() {
        LastPebble x = make();
        String text = "gull 8;when last fa on da;wait fa 1;end;when leads fa<9;loop 3;set fa on da;gull 12;end;end;tide;";
        Check.days(x, text);
        int many = 1 + (int) (seed % 20);
        long kept = 0;
        for (int i = 0; i < many; i++) {
            x.mark();
            x.live((int) seed + i);
            kept += x.finder(0, 4);
            x.back();
        }
        Check.granted(x, of("mean", many), x.mean(0, (int) seed, many));
        Check.due(of("mean of " + kept, many), x.top() * many, kept * x.bottom());
        Check.due(of("bottom", many), x.bottom() > 0 && many % x.bottom() == 0, true);
    }

    /** They watch all, and no fewer could, wherever they stood. */
    private void boys() {
        LastPebble x = make();
        for (int cells : new int[] {0, 1, 2, 5, 40}) {
            int boys = x.boys(cells);
            int watched = 0;
            for (int k = 0; k < boys; k++) {
                watched |= watchedFrom(x, x.boyAt(cells, k), cells);
            }
            Check.due(of("all is watched", cells), watched, x.told(7));
            Check.due(of("fewer boys than told", cells), canWatch(x, cells, x.told(7), boys - 1), false);
        }
    }

    private static int watchedFrom(LastPebble x, int cell, int cells) {
        int watched = 0;
        for (int d = 0; d < x.told(2); d++) {
            watched |= Math.abs(x.find(d, 0) - cell) <= cells ? 1 << d : 0;
        }
        return watched;
    }

    private static boolean canWatch(LastPebble x, int cells, int unwatched, int boys) {
        if (unwatched == 0 || boys <= 0) {
            return unwatched == 0;
        }
        int find = x.find(Integer.numberOfTrailingZeros(unwatched), 0);
        for (int cell = Math.max(0, find - cells); cell < Math.min(x.told(0), find + cells + 1); cell++) {
            if (canWatch(x, cells, unwatched & ~watchedFrom(x, cell, cells), boys - 1)) {
                return true;
            }
        }
        return false;
    }

    private void crowd() {
        LastPebble x = make();
        for (int cells : new int[] {1, 2, 7, 40}) {
            int most = 0;
            for (int set = 0; set < 1 << x.told(1); set++) {
                int left = 40;
                int right = -1;
                for (int i = 0; i < x.told(1); i++) {
                    if ((set >> i & 1) == 1) {
                        left = Math.min(left, x.finder(i, 0));
                        right = Math.max(right, x.finder(i, 0));
                    }
                }
                most = right - left < cells ? Math.max(most, Integer.bitCount(set)) : most;
            }
            Check.due(of("crowd", cells), x.crowd(cells), most);
        }
    }
}
