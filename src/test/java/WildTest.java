import java.lang.reflect.Method;
import java.lang.reflect.Modifier;

/** No call throws, with whatever numbers, on the least and on the fullest beach; what is refused answers NONE or false. */
public final class WildTest {
    private static final long[] NUMBERS = {Long.MIN_VALUE, Integer.MIN_VALUE, -1, 0, 1, 2, 3, 5, 6, 7, 8, 16, 40, 60, 61,
        240, 300, 900, 9999, Integer.MAX_VALUE, Long.MAX_VALUE};

    public static void main(String[] args) throws Exception {
        for (Method m : LastPebble.class.getDeclaredMethods()) {
            if (Modifier.isPublic(m.getModifiers())) {
                LastPebble least = new LastPebble();
                all(least, m, new Object[m.getParameterCount()], 0);
                LastPebble full = full();
                all(full, m, new Object[m.getParameterCount()], 0);
            }
        }
        fullAnswers();
        Check.end();
    }

    private static LastPebble full() {
        StringBuilder text = new StringBuilder("beach 40 tide 240 moon 60;duel share;");
        for (char c = 'a'; c < 'g'; c++) {
            text.append("finder ").append(c).append(" at 39 pace 9 pebbles 20;");
        }
        for (char c = 'p'; c < 'x'; c++) {
            text.append("find ").append(c).append(" at 39 worth 999;");
        }
        LastPebble x = Check.on(text.toString());
        Check.days(x, "loop 99;loop 99;loop 99;gull 16;end;end;end;");
        for (int k = 0; k < 60; k++) {
            x.set(k % 6, k % 8);
        }
        x.tray(0, 0, 60);
        x.tray(1, 3, 60);
        Check.due("pebbles in all", x.told(8), 60);
        return x;
    }

    private static void all(LastPebble x, Method m, Object[] given, int k) throws Exception {
        if (k < given.length) {
            // five numbers are too many for all of them: the last ones are then few
            int step = k > 2 ? 6 : 1;
            for (int i = 0; i < NUMBERS.length; i += step) {
                boolean wide = m.getParameterTypes()[k] == long.class;
                given[k] = wide ? (Object) NUMBERS[i] : (Object) (int) NUMBERS[i];
                all(x, m, given, k + 1);
            }
            return;
        }
        Object got = m.invoke(x, given);
        boolean none = x.status() == 0 || got.equals(false) || ((Object) (-1)).equals(got) || got.equals(-1L);
        boolean without = "status top bottom feed fault".contains(m.getName());
        if (!none && !without) {
            Check.due(m.getName() + " with status " + x.status() + " answered " + got, 1, 0);
        }
    }

    private static void fullAnswers() {
        LastPebble x = full();
        Check.told(x, "duels()", x.duels(), 255);
        Check.told(x, "alone()", x.alone(), 0);
        Check.told(x, "needs(5)", x.needs(5), 8);
        Check.told(x, "rivals(4, 5)", x.rivals(4, 5), 0);
        Check.told(x, "rivals(3, 5)", x.rivals(3, 5), 170);
        Check.told(x, "strewn(5)", x.strewn(5), 10);
        Check.told(x, "leads(5)", x.leads(5), 1332);
        Check.told(x, "ranked(5)", x.ranked(5), 5);
        Check.told(x, "part(7, 2)", x.part(7, 2), 333);
        Check.told(x, "lies(5, 9)", x.lies(5, 9), 7);
        Check.refused(x, "lies(5, 10)", x.lies(5, 10), 6);
        Check.refused(x, "part(7, 3)", x.part(7, 3), 6);
        Check.told(x, "threat(7)", x.threat(7), 63);
        Check.told(x, "gain(5, 7)", x.gain(5, 7), 666);
        Check.told(x, "best(5)", x.best(5), 7992);
        Check.told(x, "bestAt(7)", x.bestAt(7), 7);
        Check.told(x, "latest()", x.latest(), 0);
        Check.told(x, "richest()", x.richest(), 0);
        Check.told(x, "crowd(1)", x.crowd(1), 6);
        Check.told(x, "safe(5)", x.safe(5), 0);
        Check.told(x, "live(9)", x.live(9), 300);
        Check.told(x, "mark()", x.mark(), 1);
        Check.granted(x, "mean(5, 9980, 20)", x.mean(5, 9980, 20));
        Check.told(x, "wave(40)", x.wave(40), 60);
        Check.told(x, "back()", x.back(), 0);
        Check.told(x, "told(8)", x.told(8), 60);
        Check.told(x, "tide()", x.tide(), 1);
        for (int f = 0; f < 6; f++) {
            Check.told(x, "finder(" + f + ", 2)", x.finder(f, 2), 20);
        }
    }
}
