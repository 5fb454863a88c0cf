import java.nio.charset.StandardCharsets;
import java.util.Arrays;

/** What the tests share: asking for answers that are due, and bringing texts to the tape. */
final class Check {
    private static int asked = 0;
    private static int wrong = 0;

    private Check() {
    }

    static void due(String call, long got, long want) {
        asked++;
        if (got != want) {
            wrong++;
            System.out.println(call + " answered " + got + ", due is " + want);
        }
    }

    static void due(String call, boolean got, boolean want) {
        due(call, got ? 1 : 0, want ? 1 : 0);
    }

    /** A call that is refused: NONE with the status. */
    static void refused(LastPebble x, String call, long got, int status) {
        due(call, got, LastPebble.NONE);
        due("status() behind " + call, x.status(), status);
    }

    static void denied(LastPebble x, String call, boolean got, int status) {
        due(call, got, false);
        due("status() behind " + call, x.status(), status);
    }

    static void granted(LastPebble x, String call, boolean got) {
        due(call, got, true);
        due("status() behind " + call, x.status(), 0);
    }

    /** A call that is answered, with status 0. */
    static void told(LastPebble x, String call, long got, long want) {
        due(call, got, want);
        due("status() behind " + call, x.status(), 0);
    }

    static void fraction(LastPebble x, String call, long top, long bottom) {
        due("top() behind " + call, x.top(), top);
        due("bottom() behind " + call, x.bottom(), bottom);
    }

    /** Puts the text's bytes onto the tape, filled up with 0s to a multiple of twenty. */
    static int feed(LastPebble x, String text) {
        return feed(x, text.getBytes(StandardCharsets.ISO_8859_1));
    }

    static int feed(LastPebble x, byte[] text) {
        byte[] padded = Arrays.copyOf(text, (text.length + 19) / 20 * 20);
        for (int i = 0; i < padded.length; i += 20) {
            x.feed(intAt(padded, i), intAt(padded, i + 4), intAt(padded, i + 8), intAt(padded, i + 12),
                    intAt(padded, i + 16));
        }
        return text.length;
    }

    static int intAt(byte[] bytes, int at) {
        return (bytes[at] & 255) << 24 | (bytes[at + 1] & 255) << 16 | (bytes[at + 2] & 255) << 8
                | bytes[at + 3] & 255;
    }

    static int beach(LastPebble x, String text) {
        return x.beach(feed(x, text));
    }

    static int days(LastPebble x, String text) {
        return x.days(feed(x, text));
    }

    /** A new object with a beach. */
    static LastPebble on(String beach) {
        LastPebble x = new LastPebble();
        if (beach(x, beach) == LastPebble.NONE) {
            due("fault of beach " + beach + " at " + x.fault(1), x.fault(0), 0);
        }
        return x;
    }

    static void beachFault(String text, int fault, int place) {
        LastPebble x = new LastPebble();
        refused(x, "beach " + text, beach(x, text), 9);
        due("fault(0) of " + text, x.fault(0), fault);
        due("fault(1) of " + text, x.fault(1), place);
        due("tape behind " + text, x.feed(0, 0, 0, 0, 0), 20);
        due("told(0) behind " + text, x.told(0), 2);
    }

    static void daysFault(LastPebble x, String text, int fault, int place) {
        refused(x, "days " + text, days(x, text), 9);
        due("fault(0) of " + text, x.fault(0), fault);
        due("fault(1) of " + text, x.fault(1), place);
    }

    /** Ends the test: with exit code 1 if an answer was not the one that is due. */
    static void end() {
        System.out.println(asked + " answers, " + wrong + " not as due");
        if (wrong != 0 || asked == 0) {
            System.exit(1);
        }
    }
}
