import java.util.ArrayList;
import java.util.Arrays;
import java.util.List;
import java.util.TreeSet;

/**
 * The document told again in the plainest form, by trying all there is: rows by all orders, texts by lists of
 * tokens, days by calls within calls, marks by copies. Each call answers what LastPebble's would; status, top
 * and bottom are fields.
 */
final class Model {
    static final List<String> RESERVED = List.of("beach", "tide", "moon", "finder", "at", "pace", "pebbles", "find",
            "worth", "pebble", "of", "on", "duel", "none", "first", "last", "share", "to", "go", "set", "wait", "lift",
            "gull", "wave", "when", "leads", "free", "loop", "end", "stop");

    int status = 0;
    long top = 0;
    long bottom = 1;
    Beach beach = new Beach();
    Step days = null;
    int[] fault = {-1, -1};
    List<Byte> tape = new ArrayList<>();
    long[][] trays = new long[4][];
    int[] sorts = new int[4];
    List<Integer> row = List.of();
    int[] lived = null;
    List<Object[]> marks = new ArrayList<>();

    static final class Pebble {
        int owner;
        int minute;

        Pebble(int owner, int minute) {
            this.owner = owner;
            this.minute = minute;
        }
    }

    static final class Finder {
        String name;
        int cell;
        int pace;
        int pebbles;
        int clock;
        int kept;
    }

    static final class Find {
        String name;
        int cell;
        int worth;
        boolean there = true;
        List<Pebble> on = new ArrayList<>();
    }

    static final class Beach {
        int cells = 2;
        int tide = 60;
        int moon = 0;
        int duel = 1;
        int day = 0;
        List<Finder> finders = new ArrayList<>();
        List<Find> finds = new ArrayList<>();

        Beach copy() {
            Beach b = new Beach();
            b.cells = cells;
            b.tide = tide;
            b.moon = moon;
            b.duel = duel;
            b.day = day;
            for (Finder f : finders) {
                Finder g = new Finder();
                g.name = f.name;
                g.cell = f.cell;
                g.pace = f.pace;
                g.pebbles = f.pebbles;
                g.clock = f.clock;
                g.kept = f.kept;
                b.finders.add(g);
            }
            for (Find f : finds) {
                Find g = new Find();
                g.name = f.name;
                g.cell = f.cell;
                g.worth = f.worth;
                g.there = f.there;
                for (Pebble p : f.on) {
                    g.on.add(new Pebble(p.owner, p.minute));
                }
                b.finds.add(g);
            }
            return b;
        }
    }

    /** A step of the days; the days themselves are a step with parts. */
    static final class Step {
        String kind;
        int[] numbers = new int[3];
        List<Step> parts = new ArrayList<>();
    }

    static final class Fault extends RuntimeException {
        private static final long serialVersionUID = 1;
        final int kind;
        final int place;

        Fault(int kind, int place) {
            this.kind = kind;
            this.place = place;
        }
    }

    static final class Refused extends RuntimeException {
        private static final long serialVersionUID = 1;
        final int status;

        Refused(int status) {
            this.status = status;
        }
    }

    private static void refuseIf(boolean it, int status) {
        if (it) {
            throw new Refused(status);
        }
    }

    /** Answers a call by its name; a boolean counts 1 or 0, a call that is refused answers as LastPebble's would. */
    long call(String name, long[] a) {
        boolean without = List.of("status", "top", "bottom", "feed", "fault").contains(name);
        try {
            long got = answer(name, a);
            if (!without) {
                status = 0;
            }
            return got;
        } catch (Refused r) {
            status = r.status;
            return List.of("tray", "write", "pour", "odds", "mean").contains(name) ? 0 : -1;
        }
    }

    private static int n(long[] a, int i) {
        return (int) a[i];
    }

    private long answer(String name, long[] a) {
        switch (name) {
            case "status": return status;
            case "top": return top;
            case "bottom": return bottom;
            case "tray": return tray(n(a, 0), n(a, 1), n(a, 2));
            case "write": return write(n(a, 0), n(a, 1), a[2]);
            case "read": return read(n(a, 0), n(a, 1));
            case "pour": return pour(n(a, 0), n(a, 1), n(a, 2), n(a, 3), n(a, 4));
            case "feed": return feed(a);
            case "beach": return takeBeach(n(a, 0));
            case "days": return takeDays(n(a, 0));
            case "fault": return a[0] == 0 || a[0] == 1 ? fault[n(a, 0)] : -1;
            case "told": return told(n(a, 0));
            case "finder": return finder(n(a, 0), n(a, 1));
            case "find": return find(n(a, 0), n(a, 1));
            case "pebble": return pebble(n(a, 0), n(a, 1), n(a, 2));
            case "go": return go(beach, n(a, 0), n(a, 1));
            case "pass": return pass(beach, n(a, 0), n(a, 1));
            case "set": return set(beach, n(a, 0), n(a, 1));
            case "lift": return lift(beach, n(a, 0), n(a, 1));
            case "gull": return gull(beach, n(a, 0), n(a, 1));
            case "wave": return wave(beach, n(a, 0));
            case "tide": return tide(beach);
            case "dawn": return dawn(beach);
            default: return asked(name, a);
        }
    }

    private long asked(String name, long[] a) {
        switch (name) {
            case "last": return bits(lastOf(present(n(a, 0))));
            case "whose": return bits(whoseIs(beach, present(n(a, 0))));
            case "leads": who(n(a, 0)); return lead(beach, n(a, 0));
            case "leader": return ranked(0);
            case "duels": return setOf(f -> lastOf(f).size() > 1);
            case "needs": who(n(a, 0)); return Long.bitCount(setOf(f -> f.there && !lastOf(f).equals(one(n(a, 0)))));
            case "strewn": who(n(a, 0)); return lying(n(a, 0)).size();
            case "soonest": return soonest(n(a, 0), n(a, 1));
            case "threat": return bits(threats(present(n(a, 0))));
            case "best": return best(n(a, 0));
            case "bestAt": refuseIf(a[0] < 0 || a[0] >= row.size(), 6); return row.get(n(a, 0));
            case "lateness": return lateness(n(a, 0), n(a, 1));
            case "seen": return seen(n(a, 0), n(a, 1));
            case "boys": return boys(n(a, 0)).size();
            case "boyAt": return boyAt(n(a, 0), n(a, 1));
            case "odds": return odds(n(a, 0), n(a, 1), n(a, 2));
            case "gulls": return gulls(n(a, 0));
            case "walk": return walk(n(a, 0), n(a, 1));
            case "gain": return gain(n(a, 0), n(a, 1));
            case "safe": return safe(n(a, 0));
            case "ranked": return ranked(n(a, 0));
            case "rivals": return rivals(n(a, 0), n(a, 1));
            case "richest": return richest();
            case "left": return left(n(a, 0));
            case "tideIn": return tideIn(n(a, 0));
            case "open": return open();
            case "farthest": return farthest(n(a, 0));
            case "time": return beach.tide - who(n(a, 0)).clock;
            default: return askedMore(name, a);
        }
    }

    private long askedMore(String name, long[] a) {
        switch (name) {
            case "tally": what(n(a, 0)); who(n(a, 1)); return tally(beach.finds.get(n(a, 0)), n(a, 1));
            case "busiest": return busiest();
            case "both": return both(n(a, 0), n(a, 1), n(a, 2));
            case "latest": return latest();
            case "behind": who(n(a, 0)); return lead(beach, (int) ranked(0)) - lead(beach, n(a, 0));
            case "alone": return setOf(f -> owners(f).size() == 1);
            case "part": return part(n(a, 0), n(a, 1));
            case "crowd": return crowd(n(a, 0));
            case "lies": return lies(n(a, 0), n(a, 1));
            case "live": return live(n(a, 0));
            case "lived": return lived(n(a, 0));
            case "mean": return mean(n(a, 0), n(a, 1), n(a, 2));
            case "mark": return mark();
            case "back": return back();
            default: throw new IllegalArgumentException(name);
        }
    }

    // ---- what is found by number

    private Finder who(int finder) {
        return who(beach, finder);
    }

    private static Finder who(Beach beach, int finder) {
        refuseIf(finder < 0 || finder >= beach.finders.size(), 1);
        return beach.finders.get(finder);
    }

    private Find what(int find) {
        return what(beach, find);
    }

    private static Find what(Beach beach, int find) {
        refuseIf(find < 0 || find >= beach.finds.size(), 1);
        return beach.finds.get(find);
    }

    private Find present(int find) {
        Find f = what(find);
        refuseIf(!f.there, 7);
        return f;
    }

    private static TreeSet<Integer> one(int i) {
        return new TreeSet<>(List.of(i));
    }

    private static long bits(Iterable<Integer> set) {
        long bits = 0;
        for (int i : set) {
            bits += 1L << i;
        }
        return bits;
    }

    private interface Holds {
        boolean of(Find f);
    }

    private long setOf(Holds holds) {
        TreeSet<Integer> set = new TreeSet<>();
        for (int i = 0; i < beach.finds.size(); i++) {
            if (holds.of(beach.finds.get(i))) {
                set.add(i);
            }
        }
        return bits(set);
    }

    // ---- trays

    private long tray(int tray, int sort, int many) {
        refuseIf(tray < 0 || tray > 3 || sort < 0 || sort > 3 || many < 0 || many > 60, 1);
        trays[tray] = new long[many];
        sorts[tray] = sort;
        return 1;
    }

    private void atPlace(int tray, int place) {
        refuseIf(tray < 0 || tray > 3, 1);
        refuseIf(trays[tray] == null, 2);
        refuseIf(place < 0 || place >= trays[tray].length, 3);
    }

    private long write(int tray, int place, long v) {
        atPlace(tray, place);
        int away = 64 - (8 << sorts[tray]);
        trays[tray][place] = v << away >> away;
        return 1;
    }

    private long read(int tray, int place) {
        atPlace(tray, place);
        return trays[tray][place];
    }

    private long pour(int from, int place, int to, int at, int many) {
        refuseIf(from < 0 || from > 3 || to < 0 || to > 3 || place < 0 || at < 0 || many < 0, 1);
        refuseIf(trays[from] == null || trays[to] == null, 2);
        refuseIf(sorts[from] != sorts[to], 8);
        refuseIf((long) place + many > trays[from].length || (long) at + many > trays[to].length, 3);
        long[] taken = Arrays.copyOfRange(trays[from], place, place + many);
        for (int i = 0; i < many; i++) {
            trays[to][at + i] = taken[i];
        }
        return 1;
    }

    // ---- texts

    private long feed(long[] a) {
        if (tape.size() + 20 > 900) {
            return -1;
        }
        for (long four : a) {
            for (int shift = 24; shift >= 0; shift -= 8) {
                tape.add((byte) (four >> shift));
            }
        }
        return tape.size();
    }

    private String cutTape(int n) {
        StringBuilder text = new StringBuilder();
        for (int i = 0; i < n; i++) {
            text.append((char) (tape.get(i) & 255));
        }
        tape.clear();
        return text.toString();
    }

    private long takeBeach(int n) {
        refuseIf(n < 0 || n > tape.size(), 1);
        String text = cutTape(n);
        try {
            beach = new ModelTexts(text).beach();
            days = null;
            fault = new int[] {0, -1};
        } catch (Fault f) {
            fault = new int[] {f.kind, f.place};
            throw new Refused(9);
        }
        return beach.finds.size();
    }

    private long takeDays(int n) {
        refuseIf(n < 0 || n > tape.size() || n > 300, 1);
        String text = cutTape(n);
        try {
            days = new ModelTexts(text).days(beach);
            fault = new int[] {0, -1};
        } catch (Fault f) {
            fault = new int[] {f.kind, f.place};
            throw new Refused(9);
        }
        return steps(days);
    }

    private static int steps(Step step) {
        int many = 0;
        for (Step part : step.parts) {
            many += 1 + steps(part);
        }
        return many;
    }

    private long told(int what) {
        refuseIf(what < 0 || what > 8, 1);
        int lying = 0;
        for (Find f : beach.finds) {
            lying += f.on.size();
        }
        return new long[] {beach.cells, beach.finders.size(), beach.finds.size(), beach.tide, beach.moon, beach.duel,
            beach.day, setOf(f -> f.there), lying}[what];
    }

    private long finder(int finder, int what) {
        Finder f = who(finder);
        refuseIf(what < 0 || what > 4, 1);
        return new int[] {f.cell, f.pace, f.pebbles, f.clock, f.kept}[what];
    }

    private long find(int find, int what) {
        Find f = what(find);
        refuseIf(what < 0 || what > 2, 1);
        return new int[] {f.cell, f.worth, f.on.size()}[what];
    }

    private long pebble(int find, int k, int what) {
        Find f = what(find);
        refuseIf(what < 0 || what > 1, 1);
        refuseIf(k < 0 || k >= f.on.size(), 6);
        return what == 0 ? f.on.get(k).owner : f.on.get(k).minute;
    }

    // ---- what is done

    private static long go(Beach b, int finder, int cell) {
        Finder f = who(b, finder);
        refuseIf(cell < 0 || cell >= b.cells, 1);
        int clock = f.clock + f.pace * Math.abs(cell - f.cell);
        refuseIf(clock > b.tide, 7);
        f.cell = cell;
        f.clock = clock;
        return clock;
    }

    private static long pass(Beach b, int finder, int minutes) {
        Finder f = who(b, finder);
        refuseIf(minutes < 1 || minutes > 240, 1);
        refuseIf(f.clock + minutes > b.tide, 7);
        f.clock += minutes;
        return f.clock;
    }

    private static void put(Find f, Pebble p) {
        f.on.add(p);
        f.on.sort((x, y) -> Integer.compare(x.minute, y.minute));
    }

    private static long set(Beach b, int finder, int find) {
        Finder who = who(b, finder);
        Find f = what(b, find);
        int lying = 0;
        for (Find g : b.finds) {
            lying += g.on.size();
        }
        refuseIf(lying >= 60, 4);
        refuseIf(who.pebbles == 0, 6);
        refuseIf(!f.there || who.cell != f.cell, 7);
        who.pebbles--;
        put(f, new Pebble(finder, who.clock));
        return f.on.size();
    }

    private static long lift(Beach b, int finder, int find) {
        Finder who = who(b, finder);
        Find f = what(b, find);
        Pebble own = null;
        for (Pebble p : f.on) {
            if (p.owner == finder && (own == null || p.minute >= own.minute)) {
                own = p;
            }
        }
        refuseIf(own == null, 6);
        refuseIf(who.cell != f.cell, 7);
        f.on.remove(own);
        who.pebbles++;
        return own.minute;
    }

    private static long gull(Beach b, int from, int to) {
        Find f = what(b, from);
        Find g = what(b, to);
        refuseIf(from == to, 1);
        refuseIf(f.on.isEmpty(), 6);
        refuseIf(!f.there || !g.there, 7);
        Pebble p = f.on.remove(f.on.size() - 1);
        put(g, p);
        return p.owner;
    }

    private static long wave(Beach b, int cells) {
        refuseIf(cells < 0 || cells > 40, 1);
        int many = 0;
        for (Find f : b.finds) {
            if (f.cell < cells) {
                many += f.on.size();
                f.on.clear();
            }
        }
        return many;
    }

    private static boolean anyThere(Beach b) {
        return b.finds.stream().anyMatch(f -> f.there);
    }

    private static long tide(Beach b) {
        refuseIf(b.day == 99, 4);
        refuseIf(!anyThere(b), 7);
        int[] leads = new int[b.finders.size()];
        for (int i = 0; i < leads.length; i++) {
            leads[i] = lead(b, i);
        }
        for (int i = 0; i < leads.length; i++) {
            b.finders.get(i).kept += leads[i];
            b.finders.get(i).clock = 0;
        }
        for (Find f : b.finds) {
            f.there = false;
            for (Pebble p : f.on) {
                b.finders.get(p.owner).pebbles++;
            }
            f.on.clear();
        }
        b.tide = b.tide - b.moon < 1 ? 1 : b.tide - b.moon;
        b.day++;
        return b.day;
    }

    private static long dawn(Beach b) {
        refuseIf(anyThere(b), 7);
        for (Find f : b.finds) {
            f.there = true;
        }
        return b.finds.size();
    }

    // ---- whose it is

    private static TreeSet<Integer> owners(Find f) {
        TreeSet<Integer> set = new TreeSet<>();
        for (Pebble p : f.on) {
            set.add(p.owner);
        }
        return set;
    }

    private static TreeSet<Integer> lastOf(Find f) {
        int latest = -1;
        for (Pebble p : f.on) {
            latest = Math.max(latest, p.minute);
        }
        TreeSet<Integer> set = new TreeSet<>();
        for (Pebble p : f.on) {
            if (p.minute == latest) {
                set.add(p.owner);
            }
        }
        return set;
    }

    private static TreeSet<Integer> whoseIs(Beach b, Find f) {
        TreeSet<Integer> last = lastOf(f);
        if (last.size() < 2 || b.duel == 3) {
            return last;
        }
        if (b.duel == 0) {
            return new TreeSet<>();
        }
        return one(b.duel == 1 ? last.first() : last.last());
    }

    private static int share(Beach b, Find f, int finder) {
        TreeSet<Integer> whose = whoseIs(b, f);
        return whose.contains(finder) ? f.worth / whose.size() : 0;
    }

    private static int lead(Beach b, int finder) {
        int lead = 0;
        for (Find f : b.finds) {
            lead += share(b, f, finder);
        }
        return lead;
    }

    private List<Integer> lying(int finder) {
        List<Integer> finds = new ArrayList<>();
        for (int i = 0; i < beach.finds.size(); i++) {
            for (Pebble p : beach.finds.get(i).on) {
                if (p.owner == finder) {
                    finds.add(i);
                }
            }
        }
        return finds;
    }

    // ---- what could be

    private int minutes(Finder f, int cell) {
        return f.pace * Math.abs(f.cell - cell);
    }

    /** By trying each minute. */
    private long soonest(int finder, int find) {
        Finder who = who(finder);
        Find f = what(find);
        refuseIf(!f.there || who.pebbles == 0, 7);
        for (int minute = who.clock + minutes(who, f.cell); minute <= beach.tide; minute++) {
            boolean later = true;
            for (Pebble p : f.on) {
                later &= p.owner == finder || p.minute < minute;
            }
            if (later) {
                return minute;
            }
        }
        throw new Refused(7);
    }

    private boolean can(int finder, Find f) {
        try {
            soonest(finder, beach.finds.indexOf(f));
            return true;
        } catch (Refused r) {
            return false;
        }
    }

    private TreeSet<Integer> threats(Find f) {
        TreeSet<Integer> set = new TreeSet<>();
        for (int i = 0; i < beach.finders.size(); i++) {
            if (can(i, f)) {
                set.add(i);
            }
        }
        return set;
    }

    private int bestWorth;
    private List<Integer> bestRow;

    private void tryRows(int finder, int cell, int minute, int tide, List<Integer> done, int worth) {
        if (worth > bestWorth || worth == bestWorth && done.size() < bestRow.size()) {
            bestWorth = worth;
            bestRow = new ArrayList<>(done);
        }
        Finder who = beach.finders.get(finder);
        if (done.size() == who.pebbles) {
            return;
        }
        for (int i = 0; i < beach.finds.size(); i++) {
            Find f = beach.finds.get(i);
            if (f.there && !done.contains(i)) {
                int at = minute + who.pace * Math.abs(cell - f.cell);
                for (Pebble p : f.on) {
                    if (p.owner != finder && p.minute >= at) {
                        at = p.minute + 1;
                    }
                }
                if (at <= tide) {
                    done.add(i);
                    tryRows(finder, f.cell, at, tide, done, worth + f.worth);
                    done.remove(done.size() - 1);
                }
            }
        }
    }

    private int bestWith(int finder, int later) {
        Finder who = who(finder);
        bestWorth = 0;
        bestRow = new ArrayList<>();
        tryRows(finder, who.cell, who.clock, beach.tide + later, new ArrayList<>(), 0);
        return bestWorth;
    }

    private long best(int finder) {
        int worth = bestWith(finder, 0);
        row = bestRow;
        return worth;
    }

    private long lateness(int finder, int minutes) {
        who(finder);
        refuseIf(minutes < 0 || minutes > 240, 1);
        return bestWith(finder, minutes) - bestWith(finder, 0);
    }

    private long seen(int finder, int cells) {
        Finder who = who(finder);
        refuseIf(cells < 0 || cells > 40, 1);
        return setOf(f -> f.there && Math.abs(f.cell - who.cell) <= cells);
    }

    private List<Integer> boys(int cells) {
        refuseIf(cells < 0 || cells > 40, 1);
        TreeSet<Integer> unwatched = new TreeSet<>();
        for (Find f : beach.finds) {
            if (f.there) {
                unwatched.add(f.cell);
            }
        }
        List<Integer> boys = new ArrayList<>();
        while (!unwatched.isEmpty()) {
            int boy = beach.cells - 1;
            while (boy - unwatched.first() > cells) {
                boy--;
            }
            int at = boy;
            boys.add(at);
            unwatched.removeIf(cell -> Math.abs(cell - at) <= cells);
        }
        return boys;
    }

    private long boyAt(int cells, int k) {
        List<Integer> boys = boys(cells);
        refuseIf(k < 0 || k >= boys.size(), 6);
        return boys.get(k);
    }

    private void tell(long over, long under) {
        long a = over;
        long b = under;
        while (b != 0) {
            long rest = a % b;
            a = b;
            b = rest;
        }
        top = over / a;
        bottom = under / a;
    }

    private long odds(int find, int sixteenths, int what) {
        Find f = what(find);
        refuseIf(sixteenths < 0 || sixteenths > 16 || what < 0 || what > 1, 1);
        refuseIf(!f.there, 7);
        refuseIf(f.on.isEmpty(), 6);
        int minutes = beach.tide - f.on.get(f.on.size() - 1).minute;
        refuseIf(minutes > 12, 7);
        long over = what == 1 ? f.worth : 1;
        for (int i = 0; i < minutes; i++) {
            over *= 16 - sixteenths;
        }
        tell(over, 1L << 4 * minutes);
        return 1;
    }

    private long gulls(int tray) {
        refuseIf(tray < 0 || tray > 3, 1);
        refuseIf(trays[tray] == null, 2);
        refuseIf(trays[tray].length < beach.finds.size(), 3);
        int[] wanted = new int[beach.finds.size()];
        for (int i = 0; i < wanted.length; i++) {
            refuseIf(trays[tray][i] < 0 || trays[tray][i] > 60, 5);
            wanted[i] = (int) trays[tray][i];
        }
        int[] have = new int[wanted.length];
        for (int i = 0; i < wanted.length; i++) {
            have[i] = beach.finds.get(i).on.size();
            refuseIf(wanted[i] > 0 && !beach.finds.get(i).there, 7);
        }
        refuseIf(Arrays.stream(wanted).sum() != Arrays.stream(have).sum(), 7);
        int gulls = 0;
        while (!Arrays.equals(have, wanted)) {
            for (int i = 0; i < have.length; i++) {
                if (have[i] > wanted[i]) {
                    have[i]--;
                    break;
                }
            }
            for (int i = 0; i < have.length; i++) {
                if (have[i] < wanted[i]) {
                    have[i]++;
                    break;
                }
            }
            gulls++;
        }
        return gulls;
    }

    // ---- who is how

    private long walk(int finder, int find) {
        Finder who = who(finder);
        return minutes(who, what(find).cell);
    }

    /** By setting it there on a copy of the beach. */
    private long gain(int finder, int find) {
        int soonest = (int) soonest(finder, find);
        Beach then = beach.copy();
        put(then.finds.get(find), new Pebble(finder, soonest));
        return Math.max(0, lead(then, finder) - lead(beach, finder));
    }

    private long safe(int finder) {
        who(finder);
        return setOf(f -> {
            TreeSet<Integer> others = threats(f);
            others.remove(finder);
            return lastOf(f).equals(one(finder)) && others.isEmpty();
        });
    }

    private long ranked(int k) {
        List<Integer> order = new ArrayList<>();
        for (int i = 0; i < beach.finders.size(); i++) {
            order.add(i);
        }
        order.sort((x, y) -> Integer.compare(lead(beach, y), lead(beach, x)));
        refuseIf(k < 0 || k >= order.size(), 6);
        return order.get(k);
    }

    private long rivals(int a, int b) {
        who(a);
        who(b);
        refuseIf(a == b, 1);
        return setOf(f -> owners(f).contains(a) && owners(f).contains(b));
    }

    private long richest() {
        int richest = -1;
        for (int i = 0; i < beach.finds.size(); i++) {
            if (beach.finds.get(i).there
                    && (richest < 0 || beach.finds.get(i).worth > beach.finds.get(richest).worth)) {
                richest = i;
            }
        }
        refuseIf(richest < 0, 6);
        return richest;
    }

    private long left(int find) {
        Find f = present(find);
        refuseIf(f.on.isEmpty(), 6);
        return beach.tide - f.on.get(f.on.size() - 1).minute;
    }

    private long tideIn(int days) {
        refuseIf(days < 0 || days > 99, 1);
        int tide = beach.tide;
        for (int i = 0; i < days; i++) {
            tide = Math.max(1, tide - beach.moon);
        }
        return tide;
    }

    private long open() {
        int worth = 0;
        for (Find f : beach.finds) {
            worth += f.there && whoseIs(beach, f).isEmpty() ? f.worth : 0;
        }
        return worth;
    }

    private long farthest(int finder) {
        Finder who = who(finder);
        int farthest = -1;
        for (int i = beach.finds.size() - 1; i >= 0; i--) {
            Find f = beach.finds.get(i);
            if (f.there && (farthest < 0
                    || minutes(who, f.cell) >= minutes(who, beach.finds.get(farthest).cell))) {
                farthest = i;
            }
        }
        refuseIf(farthest < 0, 6);
        return farthest;
    }

    private static long tally(Find f, int finder) {
        return f.on.stream().filter(p -> p.owner == finder).count();
    }

    private long busiest() {
        refuseIf(beach.finders.isEmpty(), 6);
        int busiest = 0;
        for (int i = 1; i < beach.finders.size(); i++) {
            if (lying(i).size() > lying(busiest).size()) {
                busiest = i;
            }
        }
        return busiest;
    }

    private long both(int a, int b, int cells) {
        who(a);
        who(b);
        refuseIf(a == b, 1);
        return seen(a, cells) & seen(b, cells);
    }

    private long latest() {
        int latest = -1;
        for (Find f : beach.finds) {
            for (Pebble p : f.on) {
                latest = Math.max(latest, p.minute);
            }
        }
        refuseIf(latest < 0, 6);
        return latest;
    }

    private long part(int find, int k) {
        Find f = present(find);
        List<Integer> last = new ArrayList<>(lastOf(f));
        refuseIf(k < 0 || k >= last.size(), 6);
        return share(beach, f, last.get(k));
    }

    private long crowd(int cells) {
        refuseIf(cells < 1 || cells > 40, 1);
        long most = 0;
        for (int from = -40; from < 40; from++) {
            int first = from;
            most = Math.max(most,
                    beach.finders.stream().filter(f -> f.cell >= first && f.cell - first < cells).count());
        }
        return most;
    }

    private long lies(int finder, int k) {
        who(finder);
        refuseIf(k < 0 || k >= lying(finder).size(), 6);
        return lying(finder).get(k);
    }

    // ---- days, marks

    private long live(int seed) {
        refuseIf(seed < 0 || seed > 9999, 1);
        refuseIf(days == null, 6);
        ModelLife life = new ModelLife(beach, seed);
        life.live(days);
        lived = new int[] {life.missed, life.carried, life.washed, life.tides, life.cut ? 1 : 0};
        return life.steps;
    }

    private long lived(int what) {
        refuseIf(what < 0 || what > 4, 1);
        refuseIf(lived == null, 6);
        return lived[what];
    }

    private long mean(int finder, int seed, int many) {
        who(finder);
        refuseIf(seed < 0 || many < 1 || many > 20 || (long) seed + many - 1 > 9999, 1);
        refuseIf(days == null, 6);
        long kept = 0;
        for (int i = 0; i < many; i++) {
            Beach then = beach.copy();
            new ModelLife(then, seed + i).live(days);
            kept += then.finders.get(finder).kept;
        }
        tell(kept, many);
        return 1;
    }

    private long mark() {
        refuseIf(marks.size() == 3, 4);
        marks.add(new Object[] {beach.copy(), days});
        return marks.size();
    }

    private long back() {
        refuseIf(marks.isEmpty(), 6);
        Object[] mark = marks.remove(marks.size() - 1);
        beach = (Beach) mark[0];
        days = (Step) mark[1];
        return marks.size();
    }

    /** Days lived by calls within calls. */
    static final class ModelLife {
        private static final class Over extends RuntimeException {
            private static final long serialVersionUID = 1;
        }

        final Beach b;
        int drawn;
        int steps;
        int missed;
        int carried;
        int washed;
        int tides;
        boolean cut;

        ModelLife(Beach b, int seed) {
            this.b = b;
            this.drawn = seed;
        }

        void live(Step days) {
            try {
                all(days.parts);
            } catch (Over over) {
                return;
            }
        }

        private void all(List<Step> parts) {
            for (Step part : parts) {
                if (steps == 300) {
                    cut = true;
                    throw new Over();
                }
                steps++;
                try {
                    one(part);
                } catch (Refused r) {
                    missed++;
                }
            }
        }

        private int draw(int n) {
            drawn = (int) ((drawn * 2843L + 10709L) % 65536L);
            return drawn / 8 % n;
        }

        private void one(Step s) {
            int[] n = s.numbers;
            switch (s.kind) {
                case "go": go(b, n[0], n[1]); break;
                case "set": set(b, n[0], n[1]); break;
                case "wait": pass(b, n[0], n[1]); break;
                case "lift": lift(b, n[0], n[1]); break;
                case "gull": carry(n[0]); break;
                case "wave": washed += wave(b, n[0]); break;
                case "tide": tide(b); dawn(b); tides++; break;
                case "stop": throw new Over();
                case "loop":
                    for (int i = 0; i < n[0]; i++) {
                        all(s.parts);
                    }
                    break;
                default:
                    if (holds(s.kind, n)) {
                        all(s.parts);
                    }
            }
        }

        private boolean holds(String kind, int[] n) {
            switch (kind) {
                case "<": return lead(b, n[0]) < n[1];
                case ">": return lead(b, n[0]) > n[1];
                case "=": return lead(b, n[0]) == n[1];
                case "last": return lastOf(b.finds.get(n[1])).contains(n[0]);
                case "free": return b.finds.get(n[1]).there && b.finds.get(n[1]).on.isEmpty();
                default: throw new IllegalArgumentException(kind);
            }
        }

        private void carry(int sixteenths) {
            if (draw(16) >= sixteenths || b.finds.size() < 2) {
                return;
            }
            List<Integer> finds = new ArrayList<>();
            for (int i = 0; i < b.finds.size(); i++) {
                finds.add(i);
            }
            int from = finds.remove(draw(finds.size()));
            int to = finds.get(draw(finds.size()));
            try {
                gull(b, from, to);
                carried++;
            } catch (Refused r) {
                return;
            }
        }
    }
}
