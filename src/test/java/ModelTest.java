import java.lang.reflect.InvocationTargetException;
import java.lang.reflect.Method;
import java.nio.charset.StandardCharsets;
import java.util.ArrayList;
import java.util.Arrays;
import java.util.List;
import java.util.Random;

/** All promises by chance: runs of calls on LastPebble and on the model; the answers must be the same. */
public final class ModelTest {
    private static final int CALLS = 512;
    private static final String[] NAMES = {"a", "b", "c", "ann", "bob", "zz", "abcdefgh", "x", "y", "z", "gold", "q",
        "ends", "loopy"};
    private static final List<String> RARE = List.of("wave", "beach", "days", "feed", "back", "tide");
    /** The calls, and below them the kinds of their numbers: f a finder, d a find, k a place, c cells, and so on. */
    private static final String[] CALLED = {"status", "top", "bottom", "tray", "write", "read", "pour", "feed", "beach",
        "days", "fault", "told", "finder", "find", "pebble", "go", "pass", "set", "lift", "gull", "wave", "tide",
        "dawn", "last", "whose", "leads", "leader", "duels", "needs", "strewn", "soonest", "threat", "best", "bestAt",
        "lateness", "seen", "boys", "boyAt", "odds", "gulls", "walk", "gain", "safe", "ranked", "rivals", "richest",
        "left", "tideIn", "open", "farthest", "time", "tally", "busiest", "both", "latest", "behind", "alone", "part",
        "crowd", "lies", "live", "lived", "mean", "mark", "back"};
    private static final String[] KINDS = {"", "", "", "kkn", "knl", "kn", "knknn", "lllll", "n",
        "n", "b", "w", "fv", "dk", "dkb", "fc", "fm", "fd", "fd", "dd", "c", "",
        "", "d", "d", "f", "", "", "f", "f", "fd", "d", "f", "k",
        "fm", "fc", "c", "ck", "dpb", "k", "fd", "fd", "f", "k", "ff", "",
        "d", "t", "", "f", "f", "df", "", "ffc", "", "f", "", "dk",
        "c", "fk", "s", "v", "fsy", "", ""};

    private final Random random;
    private final LastPebble x = new LastPebble();
    private final Model model = new Model();
    private final List<String> told = new ArrayList<>();
    private final List<Method> methods = new ArrayList<>();
    private final boolean calm;
    private int calls = 0;

    private ModelTest(long seed) {
        random = new Random(seed);
        // In every other run no tide, wave or new beach takes the pebbles away, so that there come to be many.
        calm = seed % 2 == 0;
        for (Method m : LastPebble.class.getDeclaredMethods()) {
            if (java.lang.reflect.Modifier.isPublic(m.getModifiers())) {
                methods.add(m);
            }
        }
        methods.sort((p, q) -> p.getName().compareTo(q.getName()));
    }

    public static void main(String[] args) throws Exception {
        int runs = args.length > 0 ? Integer.parseInt(args[0]) : 400;
        long first = args.length > 1 ? Long.parseLong(args[1]) : 0;
        for (long seed = first; seed < first + runs; seed++) {
            ModelTest test = new ModelTest(seed);
            if (!test.run()) {
                System.out.println("seed " + seed + ":");
                for (String call : test.told.subList(Math.max(0, test.told.size() - 40), test.told.size())) {
                    System.out.println("  " + call);
                }
                System.exit(1);
            }
        }
        System.out.println(runs + " runs as the model's");
    }

    private boolean run() throws Exception {
        boolean well = takeText(beachText(0), "beach");
        while (well && calls < CALLS) {
            int kind = random.nextInt(100);
            if (kind == 0 && !calm) {
                well = takeText(beachText(random.nextInt(3)), "beach");
            } else if (kind < 6) {
                well = takeText(daysText(random.nextInt(3) / 2), "days");
            } else if (kind < 20) {
                well = deed();
            } else if (kind < 22) {
                well = gullsByTray();
            } else {
                well = anyCall();
            }
        }
        return well;
    }

    private Method named(String name) {
        for (Method m : methods) {
            if (m.getName().equals(name)) {
                return m;
            }
        }
        throw new IllegalArgumentException(name);
    }

    private boolean call(String name, long... args) throws IllegalAccessException, InvocationTargetException {
        Method m = named(name);
        Object[] given = new Object[args.length];
        for (int i = 0; i < args.length; i++) {
            if (m.getParameterTypes()[i] == long.class) {
                given[i] = args[i];
            } else {
                given[i] = (int) args[i];
            }
        }
        Object answer = m.invoke(x, given);
        long got = answer instanceof Boolean ? ((Boolean) answer ? 1 : 0) : ((Number) answer).longValue();
        long due = model.call(name, args);
        calls++;
        told.add(name + Arrays.toString(args) + " answered " + got + " status " + x.status());
        if (got == due && x.status() == model.status && x.top() == model.top && x.bottom() == model.bottom) {
            return true;
        }
        told.add("due is " + due + " status " + model.status + " fraction " + model.top + "/" + model.bottom
                + " and not " + x.top() + "/" + x.bottom());
        return false;
    }

    private boolean takeText(String text, String name) throws Exception {
        told.add(name + ": " + text);
        byte[] bytes = text.getBytes(StandardCharsets.ISO_8859_1);
        byte[] padded = Arrays.copyOf(bytes, (bytes.length + 19) / 20 * 20);
        for (int i = 0; i < padded.length; i += 20) {
            long[] five = new long[5];
            for (int k = 0; k < 5; k++) {
                five[k] = Check.intAt(padded, i + 4 * k);
            }
            if (!call("feed", five)) {
                return false;
            }
        }
        return call(name, bytes.length) && call("fault", 0) && call("fault", 1);
    }

    private boolean gullsByTray() throws Exception {
        boolean well = call("tray", 0, random.nextInt(4), 8);
        for (int i = 0; i < model.beach.finds.size() && well; i++) {
            int from = random.nextInt(model.beach.finds.size());
            long many = model.beach.finds.get(from).on.size();
            well = call("write", 0, i, random.nextInt(9) == 0 ? random.nextInt(70) - 5 : many);
        }
        return well && call("gulls", 0);
    }

    private boolean deed() throws Exception {
        int finder = (int) number('f');
        int find = (int) number('d');
        switch (random.nextInt(12)) {
            case 0: return calm || call("tide") && (random.nextInt(3) == 0 || call("dawn"));
            case 1: return call("gull", number('d'), number('d'));
            case 2: return call("pass", finder, 1 + random.nextInt(5));
            case 3: return call("lift", finder, find);
            case 4: return call("mark");
            case 5: return setMany(finder, find);
            default:
        }
        boolean well = true;
        if (find < model.beach.finds.size()) {
            well = call("go", finder, model.beach.finds.get(find).cell);
        }
        for (int i = 0; i < 3 && well; i++) {
            well = call("set", finder, find);
        }
        return well;
    }

    private boolean setMany(int finder, int find) throws Exception {
        boolean well = true;
        if (find < model.beach.finds.size()) {
            well = call("go", finder, model.beach.finds.get(find).cell);
        }
        for (int i = 0; i < 20 && well; i++) {
            well = call("set", finder, find);
        }
        return well;
    }

    private boolean anyCall() throws Exception {
        Method m = methods.get(random.nextInt(methods.size()));
        String name = m.getName();
        if (RARE.contains(name) && (calm || random.nextInt(4) != 0)) {
            return true;
        }
        String kinds = KINDS[Arrays.asList(CALLED).indexOf(name)];
        long[] args = new long[m.getParameterCount()];
        for (int i = 0; i < args.length; i++) {
            args[i] = random.nextInt(30) == 0 ? odd() : number(kinds.charAt(i));
        }
        return call(name, args);
    }

    /** A number of a kind as the tables at the end tell them, that most often can be. */
    private long number(char kind) {
        switch (kind) {
            case 'f': return random.nextInt(Math.max(1, model.beach.finders.size()));
            case 'd': return random.nextInt(Math.max(1, model.beach.finds.size()));
            case 'w': return random.nextInt(9);
            case 'v': return random.nextInt(5);
            case 'b': return random.nextInt(2);
            case 'k': return random.nextInt(4);
            case 'c': return random.nextInt(random.nextBoolean() ? 6 : 41);
            case 'p': return random.nextInt(17);
            case 'm': return random.nextInt(random.nextBoolean() ? 6 : 241);
            case 's': return random.nextInt(9999);
            case 'y': return 1 + random.nextInt(20);
            case 'n': return random.nextInt(61);
            case 't': return random.nextInt(100);
            default: return random.nextInt();
        }
    }

    private long odd() {
        long[] odd = {-1, -2, 2, 3, 4, 5, 6, 7, 8, 17, 21, 40, 41, 60, 61, 100, 240, 241, 300, 301, 900, 901, 9999,
            10000, 255, 128, Integer.MAX_VALUE, Integer.MIN_VALUE};
        return odd[random.nextInt(odd.length)];
    }

    private String name() {
        return NAMES[random.nextInt(NAMES.length)];
    }

    private String beachText(int faulty) {
        int cells = 2 + random.nextInt(random.nextBoolean() ? 39 : 10);
        int tide = 1 + random.nextInt(random.nextBoolean() ? 60 : 240);
        StringBuilder text = new StringBuilder("beach " + cells + " tide " + tide);
        if (random.nextBoolean()) {
            text.append(" moon ").append(random.nextInt(random.nextBoolean() ? 5 : 61));
        }
        text.append(';');
        List<String> names = new ArrayList<>(List.of(NAMES));
        java.util.Collections.shuffle(names, random);
        boolean strewn = random.nextInt(3) == 0;
        if (strewn) {
            names.replaceAll(name -> String.valueOf((char) ('a' + names.indexOf(name))));
        }
        int finders = random.nextInt(9) == 0 ? 0 : 1 + random.nextInt(strewn ? 2 : 6);
        int finds = random.nextInt(9) == 0 ? 0 : 1 + random.nextInt(strewn ? 2 : 8);
        if (!strewn && random.nextInt(4) == 0) {
            finders = 6;
            finds = 8;
        }
        for (int i = 0; i < finders; i++) {
            int pebbles = strewn ? 20 : random.nextInt(random.nextBoolean() ? 4 : 21);
            int pace = 1 + random.nextInt(random.nextBoolean() ? 2 : 9);
            text.append("finder ").append(names.get(i)).append(" at ").append(random.nextInt(cells)).append(" pace ")
                    .append(pace).append(" pebbles ").append(pebbles).append(random.nextBoolean() ? ";\n" : " ; ");
        }
        for (int i = 0; i < finds; i++) {
            int worth = random.nextInt(random.nextBoolean() ? 5 : 1000);
            text.append("find ").append(names.get(finders + i >= NAMES.length ? NAMES.length - 1 : finders + i))
                    .append(" at ").append(random.nextInt(cells)).append(" worth ").append(worth).append(';');
        }
        if (random.nextInt(3) != 0) {
            text.append("duel ").append(List.of("none", "first", "last", "share").get(random.nextInt(4))).append(';');
        }
        if (finders > 0 && finds > 0) {
            for (int i = strewn ? 28 : random.nextInt(12); i > 0; i--) {
                int minute = Math.max(0, tide - random.nextInt(Math.min(tide, random.nextBoolean() ? 3 : 15) + 1));
                text.append("pebble of ").append(names.get(random.nextInt(finders))).append(" on ")
                        .append(names.get(Math.min(NAMES.length - 1, finders + random.nextInt(finds)))).append(" at ")
                        .append(minute).append(';');
            }
        }
        return spoil(text, faulty, 900);
    }

    private String daysText(int faulty) {
        StringBuilder text = new StringBuilder();
        int open = 0;
        for (int i = random.nextInt(16); i > 0; i--) {
            switch (random.nextInt(12)) {
                case 0: text.append("go ").append(finder()).append(" to ").append(random.nextInt(10)).append(';');
                    break;
                case 1:
                case 2: text.append("set ").append(finder()).append(" on ").append(find()).append(';');
                    break;
                case 3: text.append("wait ").append(finder()).append(' ').append(1 + random.nextInt(9)).append(';');
                    break;
                case 4: text.append("lift ").append(finder()).append(" on ").append(find()).append(';');
                    break;
                case 5: text.append("gull ").append(16 - random.nextInt(random.nextBoolean() ? 5 : 17)).append(';');
                    break;
                case 6: text.append(random.nextInt(3) == 0 ? "wave " + random.nextInt(12) + ";" : "tide;");
                    break;
                case 7: text.append(random.nextInt(9) == 0 ? "stop;" : "tide;");
                    break;
                case 8:
                case 9: text.append("when ").append(test()).append(';');
                    open++;
                    break;
                case 10: text.append("loop ").append(1 + random.nextInt(random.nextInt(5) == 0 ? 99 : 6)).append(';');
                    open++;
                    break;
                default:
                    if (open > 0) {
                        text.append("end;");
                        open--;
                    }
            }
        }
        text.append("end;".repeat(open));
        return spoil(text, faulty, 300);
    }

    private String finder() {
        int many = model.beach.finders.size();
        return many > 0 && random.nextInt(50) != 0 ? model.beach.finders.get(random.nextInt(many)).name : name();
    }

    private String find() {
        int many = model.beach.finds.size();
        return many > 0 && random.nextInt(50) != 0 ? model.beach.finds.get(random.nextInt(many)).name : name();
    }

    private String test() {
        switch (random.nextInt(3)) {
            case 0: return "leads " + finder() + "<>=".charAt(random.nextInt(3)) + random.nextInt(12);
            case 1: return "last " + finder() + " on " + find();
            default: return "free " + find();
        }
    }

    private String spoil(StringBuilder text, int faults, int longest) {
        for (int i = 0; i < faults && text.length() > 0; i++) {
            int at = random.nextInt(text.length());
            switch (random.nextInt(5)) {
                case 0: text.deleteCharAt(at);
                    break;
                case 1: text.insert(at, "abz09;<>= \n\t?A".charAt(random.nextInt(14)));
                    break;
                case 2: text.setCharAt(at, (char) random.nextInt(256));
                    break;
                case 3: text.insert(at, " " + Model.RESERVED.get(random.nextInt(30)) + " ");
                    break;
                default: text.setLength(at);
            }
        }
        text.setLength(Math.min(longest, text.length()));
        return text.toString();
    }
}
