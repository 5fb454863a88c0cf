import java.util.List;
import java.util.function.Supplier;
import java.util.function.ToLongFunction;

/**
 * What the tests of edges share: the last number that may be and the first that may not, and calls that are refused.
 * A refused call is asked of one of two objects made alike, which then must still be alike.
 */
final class Edge {
    /** Finders 0 to 2, finds 0 to 2; of finders a is at x, b and c are at y, c has no pebbles. */
    static final String BEACH = "beach 20 tide 30 moon 4;duel share;finder a at 4 pace 1 pebbles 3;"
            + "finder b at 10 pace 2 pebbles 2;finder c at 10 pace 1 pebbles 0;find x at 4 worth 10;"
            + "find y at 10 worth 7;find z at 15 worth 20;pebble of b on y at 5;pebble of a on y at 5;"
            + "pebble of a on z at 28;";
    /** What no NAME may be. */
    static final List<String> WORDS = List.of("beach", "tide", "moon", "finder", "at", "pace", "pebbles", "find",
            "worth", "pebble", "of", "on", "duel", "none", "first", "last", "share", "to", "go", "set", "wait", "lift",
            "gull", "wave", "when", "leads", "free", "loop", "end", "stop");
    static final String DAYS = "wait a 1;gull 9;wave 5;set a on x;";

    /** A call with one number left free. */
    interface Numbered {
        long ask(LastPebble x, int n);
    }

    private Edge() {
    }

    /** An object on which nothing is as it is on a new one. */
    static LastPebble full() {
        LastPebble x = Check.on(BEACH);
        Check.days(x, DAYS);
        x.mark();
        x.live(3);
        x.back();
        x.mark();
        x.pass(0, 2);
        x.tray(0, 0, 3);
        x.write(0, 0, 7);
        x.tray(1, 0, 4);
        x.write(1, 3, 9);
        x.tray(2, 1, 4);
        x.odds(2, 8, 0);
        x.best(0);
        Check.beach(x, "beach 1");
        Check.feed(x, "beach 3 tide 7;     ");
        return x;
    }

    /** The same behind the tide. */
    static LastPebble gone() {
        LastPebble x = full();
        x.tide();
        return x;
    }

    static LastPebble fresh() {
        return new LastPebble();
    }

    static Supplier<LastPebble> on(String beach) {
        return () -> Check.on(beach);
    }

    /** As an int call would answer it. */
    static long flag(boolean got) {
        return got ? 1 : LastPebble.NONE;
    }

    static void refuses(String call, Supplier<LastPebble> make, ToLongFunction<LastPebble> ask, int status) {
        LastPebble asked = make.get();
        Check.due(call, ask.applyAsLong(asked), LastPebble.NONE);
        Check.due("status() behind " + call, asked.status(), status);
        // With a FAULT the tape and fault() are others, as they should be.
        boolean texts = status != 9;
        String got = Shot.of(asked, texts);
        String due = Shot.of(make.get(), texts);
        Check.due(call + " changes nothing", got.equals(due), true);
        if (!got.equals(due)) {
            System.out.println(got + "is due to be\n" + due);
        }
    }

    static void tells(String call, Supplier<LastPebble> make, ToLongFunction<LastPebble> ask, long want) {
        LastPebble x = make.get();
        Check.told(x, call, ask.applyAsLong(x), want);
    }

    /** The numbers from least to most may be, all others are refused with status 1. */
    static void between(String call, Supplier<LastPebble> make, Numbered ask, int least, int most) {
        outside(call, make, ask, least, most);
        for (int n : new int[] {least, most}) {
            LastPebble x = make.get();
            long got = ask.ask(x, n);
            Check.due("status() behind " + call + " with " + n, x.status(), 0);
            Check.due("an answer of " + call + " with " + n, got != LastPebble.NONE, true);
        }
    }

    /** The same where the numbers that may be are refused for another reason, perhaps. */
    static void outside(String call, Supplier<LastPebble> make, Numbered ask, int least, int most) {
        for (int n : new int[] {least - 1, most + 1, Integer.MIN_VALUE, Integer.MAX_VALUE}) {
            refuses(call + " with " + n, make, x -> ask.ask(x, n), 1);
        }
        for (int n : new int[] {least, most}) {
            LastPebble x = make.get();
            ask.ask(x, n);
            Check.due("status 1 behind " + call + " with " + n, x.status() == 1, false);
        }
    }
}
