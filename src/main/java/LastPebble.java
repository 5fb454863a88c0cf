/** A beach on which a find is kept by whoever set the last pebble on it before the tide. README.md tells its use. */
public final class LastPebble {
    public static final int NONE = -1;

    private static final int DONE = 0;
    private static final int NO_SUCH_NUMBER = 1;
    private static final int NO_TRAY = 2;
    private static final int NO_PLACE = 3;
    private static final int TOO_MANY = 4;
    private static final int BAD_IN_TRAY = 5;
    private static final int NONE_SUCH = 6;
    private static final int CANNOT_BE = 7;
    private static final int UNLIKE_SORTS = 8;
    private static final int FAULTY = 9;

    private static final int TRAYS = 4;
    private static final int MARKS = 3;
    private static final int DAYS_BYTES = 300;
    private static final int CELLS_MOST = 40;
    private static final int SIXTEENTHS = 16;
    private static final int ODDS_MINUTES = 12;
    private static final int MINUTES_MOST = 240;
    private static final int DAY_MOST = 99;
    private static final int SEED_MOST = 9999;
    private static final int SEEDS_MOST = 20;

    private final Tray[] trays = new Tray[TRAYS];
    private final Reader reader = new Reader();
    private final BeachText beachText = new BeachText(reader);
    private final DaysText daysText = new DaysText(reader);
    private final Days[] markedDays = new Days[MARKS];
    private final Beach[] markedBeaches = new Beach[MARKS];
    private final Round round = new Round();
    private final Life life = new Life();
    private final int[] livedCounts = new int[Life.COUNTS];
    private boolean hasLived;
    private Beach beach = new Beach();
    private Beach spareBeach = new Beach();
    private Days days = new Days();
    private Days spareDays = new Days();
    private int marks;
    private int status;
    private long top;
    private long bottom = 1;

    public LastPebble() {
        for (int i = 0; i < TRAYS; i++) {
            trays[i] = new Tray();
        }
        for (int i = 0; i < MARKS; i++) {
            markedDays[i] = new Days();
            markedBeaches[i] = new Beach();
        }
    }

    private int answer(int told) {
        status = DONE;
        return told;
    }

    private int refuse(int why) {
        status = why;
        return NONE;
    }

    private boolean grant() {
        status = DONE;
        return true;
    }

    private boolean deny(int why) {
        status = why;
        return false;
    }

    /** What a deed came to: the beach keeps what it tells. */
    private int settle(int why) {
        return why == DONE ? answer(beach.outcome) : refuse(why);
    }

    public int status() {
        return status;
    }

    public long top() {
        return top;
    }

    public long bottom() {
        return bottom;
    }

    private void tellFraction(long over, long under) {
        long divisor = commonDivisor(over, under);
        if (divisor > 0) {
            top = over / divisor;
            bottom = under / divisor;
        }
    }

    private static long commonDivisor(long a, long b) {
        long one = a;
        long other = b;
        for (int i = 0; i < 200 && other != 0; i++) {
            long rest = one % other;
            one = other;
            other = rest;
        }
        return one;
    }

    // ---- TRAYS

    private Tray trayAt(int tray) {
        return tray >= 0 && tray < trays.length ? trays[tray] : null;
    }

    public boolean tray(int tray, int sort, int many) {
        Tray row = trayAt(tray);
        if (row == null || sort < 0 || sort > Tray.SORT_MOST || many < 0 || many > Tray.LONGEST) {
            return deny(NO_SUCH_NUMBER);
        }
        row.lay(sort, many);
        return grant();
    }

    public boolean write(int tray, int place, long v) {
        Tray row = trayAt(tray);
        if (row == null) {
            return deny(NO_SUCH_NUMBER);
        }
        if (row.missing) {
            return deny(NO_TRAY);
        }
        if (!row.holds(place, 1)) {
            return deny(NO_PLACE);
        }
        row.put(place, v);
        return grant();
    }

    public long read(int tray, int place) {
        Tray row = trayAt(tray);
        if (row == null) {
            return refuse(NO_SUCH_NUMBER);
        }
        if (row.missing) {
            return refuse(NO_TRAY);
        }
        if (!row.holds(place, 1)) {
            return refuse(NO_PLACE);
        }
        status = DONE;
        return row.numberAt(place);
    }

    public boolean pour(int from, int place, int to, int at, int many) {
        Tray source = trayAt(from);
        Tray goal = trayAt(to);
        if (source == null || goal == null || place < 0 || at < 0 || many < 0) {
            return deny(NO_SUCH_NUMBER);
        }
        if (source.missing || goal.missing) {
            return deny(NO_TRAY);
        }
        if (source.sort != goal.sort) {
            return deny(UNLIKE_SORTS);
        }
        if (!source.holds(place, many) || !goal.holds(at, many)) {
            return deny(NO_PLACE);
        }
        System.arraycopy(source.numbers, place, goal.numbers, at, many);
        return grant();
    }

    // ---- texts

    public int feed(int a, int b, int c, int d, int e) {
        if (!reader.hasRoom()) {
            return NONE;
        }
        reader.feedInt(a);
        reader.feedInt(b);
        reader.feedInt(c);
        reader.feedInt(d);
        reader.feedInt(e);
        return reader.fed;
    }

    public int beach(int n) {
        if (n < 0 || n > reader.fed) {
            return refuse(NO_SUCH_NUMBER);
        }
        reader.begin(n);
        if (!beachText.takeBeach(spareBeach)) {
            return refuse(FAULTY);
        }
        Beach old = beach;
        beach = spareBeach;
        spareBeach = old;
        days.clear();
        return answer(beach.findCount);
    }

    public int days(int n) {
        if (n < 0 || n > reader.fed || n > DAYS_BYTES) {
            return refuse(NO_SUCH_NUMBER);
        }
        reader.begin(n);
        if (!daysText.takeDays(beach, spareDays)) {
            return refuse(FAULTY);
        }
        Days old = days;
        days = spareDays;
        spareDays = old;
        return answer(days.steps);
    }

    public int fault(int what) {
        if (what == 0) {
            return reader.fault;
        }
        return what == 1 ? reader.faultPlace : NONE;
    }

    public int told(int what) {
        switch (what) {
            case 0: return answer(beach.cells);
            case 1: return answer(beach.finderCount);
            case 2: return answer(beach.findCount);
            case 3: return answer(beach.tideMinute);
            case 4: return answer(beach.moon);
            case 5: return answer(beach.duel);
            case 6: return answer(beach.day);
            case 7: return answer(beach.thereSet());
            case 8: return answer(beach.lying());
            default: return refuse(NO_SUCH_NUMBER);
        }
    }

    public int finder(int finder, int what) {
        Finder who = beach.finderAt(finder);
        if (who == null) {
            return refuse(NO_SUCH_NUMBER);
        }
        switch (what) {
            case 0: return answer(who.cell);
            case 1: return answer(who.pace);
            case 2: return answer(who.pebbles);
            case 3: return answer(who.clock);
            case 4: return answer(who.kept);
            default: return refuse(NO_SUCH_NUMBER);
        }
    }

    public int find(int find, int what) {
        Find one = beach.findAt(find);
        if (one == null) {
            return refuse(NO_SUCH_NUMBER);
        }
        switch (what) {
            case 0: return answer(one.cell);
            case 1: return answer(one.worth);
            case 2: return answer(one.count);
            default: return refuse(NO_SUCH_NUMBER);
        }
    }

    public int pebble(int find, int k, int what) {
        Find one = beach.findAt(find);
        if (one == null || what < 0 || what > 1) {
            return refuse(NO_SUCH_NUMBER);
        }
        if (!one.has(k)) {
            return refuse(NONE_SUCH);
        }
        return answer(what == 0 ? one.owners[k] : one.minutes[k]);
    }

    // ---- what is done

    public int go(int finder, int cell) {
        return settle(beach.walkTo(finder, cell));
    }

    public int pass(int finder, int minutes) {
        return settle(beach.waitFor(finder, minutes));
    }

    public int set(int finder, int find) {
        return settle(beach.layOn(finder, find));
    }

    public int lift(int finder, int find) {
        return settle(beach.takeUp(finder, find));
    }

    public int gull(int from, int to) {
        return settle(beach.carry(from, to));
    }

    public int wave(int cells) {
        return settle(beach.washBelow(cells));
    }

    public int tide() {
        return settle(beach.comeTide());
    }

    public int dawn() {
        return settle(beach.comeDawn());
    }

    // ---- whose it is

    public int last(int find) {
        Find one = beach.findAt(find);
        if (one == null) {
            return refuse(NO_SUCH_NUMBER);
        }
        return one.there ? answer(one.lastSet()) : refuse(CANNOT_BE);
    }

    public int whose(int find) {
        Find one = beach.findAt(find);
        if (one == null) {
            return refuse(NO_SUCH_NUMBER);
        }
        return one.there ? answer(beach.heirs(one)) : refuse(CANNOT_BE);
    }

    public int leads(int finder) {
        return beach.finderAt(finder) == null ? refuse(NO_SUCH_NUMBER) : answer(beach.leadOf(finder));
    }

    public int leader() {
        int first = beach.ranking(0);
        return first == NONE ? refuse(NONE_SUCH) : answer(first);
    }

    public int duels() {
        int set = 0;
        for (int i = 0; i < beach.findCount; i++) {
            if (Integer.bitCount(beach.finds[i].lastSet()) > 1) {
                set |= 1 << i;
            }
        }
        return answer(set);
    }

    public int needs(int finder) {
        if (beach.finderAt(finder) == null) {
            return refuse(NO_SUCH_NUMBER);
        }
        int many = 0;
        for (int i = 0; i < beach.findCount; i++) {
            Find one = beach.finds[i];
            if (one.there && one.lastSet() != 1 << finder) {
                many++;
            }
        }
        return answer(many);
    }

    public int strewn(int finder) {
        return beach.finderAt(finder) == null ? refuse(NO_SUCH_NUMBER) : answer(beach.strewnBy(finder));
    }

    // ---- what could be

    public int soonest(int finder, int find) {
        Find one = beach.findAt(find);
        if (beach.finderAt(finder) == null || one == null) {
            return refuse(NO_SUCH_NUMBER);
        }
        int minute = beach.soonestOf(finder, one);
        return minute == NONE ? refuse(CANNOT_BE) : answer(minute);
    }

    public int threat(int find) {
        Find one = beach.findAt(find);
        if (one == null) {
            return refuse(NO_SUCH_NUMBER);
        }
        return one.there ? answer(beach.threatTo(one)) : refuse(CANNOT_BE);
    }

    public int best(int finder) {
        if (beach.finderAt(finder) == null) {
            return refuse(NO_SUCH_NUMBER);
        }
        round.prepare(beach, finder, 0);
        round.chooseRow();
        return answer(round.bestWorth());
    }

    public int bestAt(int k) {
        return k >= 0 && k < round.rowLength ? answer(round.row[k]) : refuse(NONE_SUCH);
    }

    public int lateness(int finder, int minutes) {
        if (beach.finderAt(finder) == null || minutes < 0 || minutes > MINUTES_MOST) {
            return refuse(NO_SUCH_NUMBER);
        }
        round.prepare(beach, finder, minutes);
        int later = round.bestWorth();
        round.prepare(beach, finder, 0);
        return answer(later - round.bestWorth());
    }

    public int seen(int finder, int cells) {
        Finder who = beach.finderAt(finder);
        if (who == null || cells < 0 || cells > CELLS_MOST) {
            return refuse(NO_SUCH_NUMBER);
        }
        return answer(beach.sightOf(who, cells));
    }

    public int boys(int cells) {
        if (cells < 0 || cells > CELLS_MOST) {
            return refuse(NO_SUCH_NUMBER);
        }
        int many = 0;
        while (many < Beach.FINDS && beach.boyCell(cells, many) != NONE) {
            many++;
        }
        return answer(many);
    }

    public int boyAt(int cells, int k) {
        if (cells < 0 || cells > CELLS_MOST) {
            return refuse(NO_SUCH_NUMBER);
        }
        int cell = beach.boyCell(cells, k);
        return cell == NONE ? refuse(NONE_SUCH) : answer(cell);
    }

    public boolean odds(int find, int sixteenths, int what) {
        Find one = beach.findAt(find);
        if (one == null || sixteenths < 0 || sixteenths > SIXTEENTHS || what < 0 || what > 1) {
            return deny(NO_SUCH_NUMBER);
        }
        if (!one.there) {
            return deny(CANNOT_BE);
        }
        if (one.count == 0) {
            return deny(NONE_SUCH);
        }
        int minutes = beach.tideMinute - one.latestMinute();
        if (minutes > ODDS_MINUTES) {
            return deny(CANNOT_BE);
        }
        long over = what == 0 ? 1 : one.worth;
        long under = 1;
        for (int i = 0; i < minutes; i++) {
            over *= SIXTEENTHS - sixteenths;
            under *= SIXTEENTHS;
        }
        tellFraction(over, under);
        return grant();
    }

    public int gulls(int tray) {
        Tray row = trayAt(tray);
        if (row == null) {
            return refuse(NO_SUCH_NUMBER);
        }
        if (row.missing) {
            return refuse(NO_TRAY);
        }
        if (!row.holds(0, beach.findCount)) {
            return refuse(NO_PLACE);
        }
        for (int i = 0; i < beach.findCount; i++) {
            if (row.numberAt(i) < 0 || row.numberAt(i) > Beach.PEBBLES) {
                return refuse(BAD_IN_TRAY);
            }
        }
        int carried = fewestGulls(row);
        return carried == NONE ? refuse(CANNOT_BE) : answer(carried);
    }

    /** Each gull mends one pebble too few, so what is lacking on all finds together is the fewest. */
    private int fewestGulls(Tray row) {
        int told = 0;
        int lacking = 0;
        for (int i = 0; i < beach.findCount; i++) {
            Find one = beach.finds[i];
            int many = (int) row.numberAt(i);
            if (many > 0 && !one.there) {
                return NONE;
            }
            told += many;
            lacking += Math.max(0, many - one.count);
        }
        return told == beach.lying() ? lacking : NONE;
    }

    // ---- who is how

    public int walk(int finder, int find) {
        Finder who = beach.finderAt(finder);
        Find one = beach.findAt(find);
        return who == null || one == null ? refuse(NO_SUCH_NUMBER) : answer(who.minutesTo(one.cell));
    }

    public int gain(int finder, int find) {
        Find one = beach.findAt(find);
        if (beach.finderAt(finder) == null || one == null) {
            return refuse(NO_SUCH_NUMBER);
        }
        if (beach.soonestOf(finder, one) == NONE) {
            return refuse(CANNOT_BE);
        }
        // Whoever sets one at its soonest is alone the last there, so all the worth is its own then.
        return answer(one.worth - beach.shareOf(finder, one));
    }

    public int safe(int finder) {
        if (beach.finderAt(finder) == null) {
            return refuse(NO_SUCH_NUMBER);
        }
        int self = 1 << finder;
        int set = 0;
        for (int i = 0; i < beach.findCount; i++) {
            Find one = beach.finds[i];
            if (one.lastSet() == self && (beach.threatTo(one) & ~self) == 0) {
                set |= 1 << i;
            }
        }
        return answer(set);
    }

    public int ranked(int k) {
        int finder = beach.ranking(k);
        return finder == NONE ? refuse(NONE_SUCH) : answer(finder);
    }

    public int rivals(int a, int b) {
        if (beach.finderAt(a) == null || beach.finderAt(b) == null || a == b) {
            return refuse(NO_SUCH_NUMBER);
        }
        int pair = 1 << a | 1 << b;
        int set = 0;
        for (int i = 0; i < beach.findCount; i++) {
            if ((beach.finds[i].ownerSet() & pair) == pair) {
                set |= 1 << i;
            }
        }
        return answer(set);
    }

    public int richest() {
        int richest = NONE;
        int most = NONE;
        for (int i = 0; i < beach.findCount; i++) {
            Find one = beach.finds[i];
            if (one.there && one.worth > most) {
                most = one.worth;
                richest = i;
            }
        }
        return richest == NONE ? refuse(NONE_SUCH) : answer(richest);
    }

    public int left(int find) {
        Find one = beach.findAt(find);
        if (one == null) {
            return refuse(NO_SUCH_NUMBER);
        }
        if (!one.there) {
            return refuse(CANNOT_BE);
        }
        return one.count == 0 ? refuse(NONE_SUCH) : answer(beach.tideMinute - one.latestMinute());
    }

    public int tideIn(int days) {
        return days < 0 || days > DAY_MOST ? refuse(NO_SUCH_NUMBER) : answer(beach.tideAfter(days));
    }

    public int open() {
        int worth = 0;
        for (int i = 0; i < beach.findCount; i++) {
            Find one = beach.finds[i];
            if (one.there && beach.heirs(one) == 0) {
                worth += one.worth;
            }
        }
        return answer(worth);
    }

    public int farthest(int finder) {
        Finder who = beach.finderAt(finder);
        if (who == null) {
            return refuse(NO_SUCH_NUMBER);
        }
        int farthest = NONE;
        int longest = NONE;
        for (int i = 0; i < beach.findCount; i++) {
            Find one = beach.finds[i];
            if (one.there && who.minutesTo(one.cell) > longest) {
                longest = who.minutesTo(one.cell);
                farthest = i;
            }
        }
        return farthest == NONE ? refuse(NONE_SUCH) : answer(farthest);
    }

    public int time(int finder) {
        Finder who = beach.finderAt(finder);
        return who == null ? refuse(NO_SUCH_NUMBER) : answer(beach.tideMinute - who.clock);
    }

    public int tally(int find, int finder) {
        Find one = beach.findAt(find);
        if (one == null || beach.finderAt(finder) == null) {
            return refuse(NO_SUCH_NUMBER);
        }
        return answer(one.tallyOf(finder));
    }

    public int busiest() {
        int busiest = NONE;
        int most = NONE;
        for (int i = 0; i < beach.finderCount; i++) {
            int many = beach.strewnBy(i);
            if (many > most) {
                most = many;
                busiest = i;
            }
        }
        return busiest == NONE ? refuse(NONE_SUCH) : answer(busiest);
    }

    public int both(int a, int b, int cells) {
        Finder one = beach.finderAt(a);
        Finder other = beach.finderAt(b);
        if (one == null || other == null || a == b || cells < 0 || cells > CELLS_MOST) {
            return refuse(NO_SUCH_NUMBER);
        }
        return answer(beach.sightOf(one, cells) & beach.sightOf(other, cells));
    }

    public int latest() {
        int minute = NONE;
        for (int i = 0; i < beach.findCount; i++) {
            minute = Math.max(minute, beach.finds[i].latestMinute());
        }
        return minute == NONE ? refuse(NONE_SUCH) : answer(minute);
    }

    public int behind(int finder) {
        int first = beach.ranking(0);
        if (beach.finderAt(finder) == null || first == NONE) {
            return refuse(NO_SUCH_NUMBER);
        }
        return answer(beach.leadOf(first) - beach.leadOf(finder));
    }

    public int alone() {
        int set = 0;
        for (int i = 0; i < beach.findCount; i++) {
            if (Integer.bitCount(beach.finds[i].ownerSet()) == 1) {
                set |= 1 << i;
            }
        }
        return answer(set);
    }

    public int part(int find, int k) {
        Find one = beach.findAt(find);
        if (one == null) {
            return refuse(NO_SUCH_NUMBER);
        }
        if (!one.there) {
            return refuse(CANNOT_BE);
        }
        int set = one.lastSet();
        int ahead = 0;
        for (int i = 0; i < beach.finderCount; i++) {
            if ((set >> i & 1) == 1) {
                if (ahead == k) {
                    return answer(beach.shareOf(i, one));
                }
                ahead++;
            }
        }
        return refuse(NONE_SUCH);
    }

    public int crowd(int cells) {
        if (cells < 1 || cells > CELLS_MOST) {
            return refuse(NO_SUCH_NUMBER);
        }
        int most = 0;
        for (int from = 0; from < beach.cells; from++) {
            most = Math.max(most, beach.findersIn(from, cells));
        }
        return answer(most);
    }

    public int lies(int finder, int k) {
        if (beach.finderAt(finder) == null) {
            return refuse(NO_SUCH_NUMBER);
        }
        int ahead = 0;
        for (int i = 0; i < beach.findCount; i++) {
            ahead += beach.finds[i].tallyOf(finder);
            if (k >= 0 && k < ahead) {
                return answer(i);
            }
        }
        return refuse(NONE_SUCH);
    }

    // ---- DAYS

    public int live(int seed) {
        if (seed < 0 || seed > SEED_MOST) {
            return refuse(NO_SUCH_NUMBER);
        }
        if (!days.taken) {
            return refuse(NONE_SUCH);
        }
        int steps = life.liveThrough(beach, days, seed);
        System.arraycopy(life.counts, 0, livedCounts, 0, Life.COUNTS);
        hasLived = true;
        return answer(steps);
    }

    public int lived(int what) {
        if (what < 0 || what >= livedCounts.length) {
            return refuse(NO_SUCH_NUMBER);
        }
        return hasLived ? answer(livedCounts[what]) : refuse(NONE_SUCH);
    }

    public boolean mean(int finder, int seed, int many) {
        if (beach.finderAt(finder) == null || seed < 0 || many < 1 || many > SEEDS_MOST
                || seed > SEED_MOST - many + 1) {
            return deny(NO_SUCH_NUMBER);
        }
        if (!days.taken) {
            return deny(NONE_SUCH);
        }
        long kept = 0;
        for (int i = 0; i < many; i++) {
            spareBeach.copyFrom(beach);
            life.liveThrough(spareBeach, days, seed + i);
            kept += spareBeach.keptBy(finder);
        }
        tellFraction(kept, many);
        return grant();
    }

    // ---- MARKS

    public int mark() {
        if (marks >= MARKS) {
            return refuse(TOO_MANY);
        }
        markedBeaches[marks].copyFrom(beach);
        markedDays[marks].copyFrom(days);
        marks++;
        return answer(marks);
    }

    public int back() {
        if (marks <= 0) {
            return refuse(NONE_SUCH);
        }
        marks--;
        beach.copyFrom(markedBeaches[marks]);
        days.copyFrom(markedDays[marks]);
        return answer(marks);
    }

    /** A row of numbers, each cut to the row's sort. */
    private static final class Tray {
        static final int LONGEST = 60;
        static final int SORT_MOST = 3;

        final long[] numbers = new long[LONGEST];
        boolean missing = true;
        int sort;
        int length;

        void lay(int newSort, int many) {
            missing = false;
            sort = newSort;
            length = many;
            for (int i = 0; i < LONGEST; i++) {
                numbers[i] = 0;
            }
        }

        boolean holds(int place, int many) {
            return place >= 0 && many >= 0 && place <= length - many;
        }

        void put(int place, long v) {
            if (holds(place, 1)) {
                numbers[place] = cut(v);
            }
        }

        long numberAt(int place) {
            return holds(place, 1) ? numbers[place] : 0;
        }

        private long cut(long v) {
            switch (sort) {
                case 0: return (byte) v;
                case 1: return (short) v;
                case 2: return (int) v;
                default: return v;
            }
        }
    }

    private static final class Finder {
        long name;
        int cell;
        int pace;
        int pebbles;
        int clock;
        int kept;

        void becomeLike(Finder other) {
            name = other.name;
            cell = other.cell;
            pace = other.pace;
            pebbles = other.pebbles;
            clock = other.clock;
            kept = other.kept;
        }

        int minutesTo(int goal) {
            return pace * Math.abs(goal - cell);
        }
    }

    /** A find and the pebbles on it, as they stand: by minutes, of one minute as they came. */
    private static final class Find {
        final int[] owners = new int[Beach.PEBBLES];
        final int[] minutes = new int[Beach.PEBBLES];
        long name;
        int cell;
        int worth;
        boolean there;
        int count;

        void becomeLike(Find other) {
            name = other.name;
            cell = other.cell;
            worth = other.worth;
            there = other.there;
            count = other.count;
            System.arraycopy(other.owners, 0, owners, 0, count);
            System.arraycopy(other.minutes, 0, minutes, 0, count);
        }

        boolean has(int k) {
            return k >= 0 && k < count;
        }

        void insert(int owner, int minute) {
            if (count >= Beach.PEBBLES) {
                return;
            }
            int place = count;
            while (place > 0 && minutes[place - 1] > minute) {
                minutes[place] = minutes[place - 1];
                owners[place] = owners[place - 1];
                place--;
            }
            minutes[place] = minute;
            owners[place] = owner;
            count++;
        }

        void removeAt(int k) {
            if (!has(k)) {
                return;
            }
            count--;
            for (int i = k; i < count; i++) {
                minutes[i] = minutes[i + 1];
                owners[i] = owners[i + 1];
            }
        }

        int latestMinute() {
            return count > 0 ? minutes[count - 1] : NONE;
        }

        int lastSet() {
            int set = 0;
            for (int i = count - 1; i >= 0 && minutes[i] == minutes[count - 1]; i--) {
                set |= 1 << owners[i];
            }
            return set;
        }

        int ownerSet() {
            int set = 0;
            for (int i = 0; i < count; i++) {
                set |= 1 << owners[i];
            }
            return set;
        }

        int tallyOf(int owner) {
            int many = 0;
            for (int i = 0; i < count; i++) {
                if (owners[i] == owner) {
                    many++;
                }
            }
            return many;
        }

        /** Where the owner's latest pebble stands, of several of that minute the last one. */
        int newestOf(int owner) {
            for (int i = count - 1; i >= 0; i--) {
                if (owners[i] == owner) {
                    return i;
                }
            }
            return NONE;
        }

        /** The first minute that is later than all pebbles of others than the owner. */
        int behindOthers(int owner) {
            for (int i = count - 1; i >= 0; i--) {
                if (owners[i] != owner) {
                    return minutes[i] + 1;
                }
            }
            return 0;
        }
    }

    /** All that a mark keeps but the days: what was told, and what has become of it. */
    private static final class Beach {
        static final int FINDERS = 6;
        static final int FINDS = 8;
        static final int PEBBLES = 60;
        static final int NOBODYS = 0;
        static final int FIRST = 1;
        static final int LAST = 2;

        final Finder[] finders = new Finder[FINDERS];
        final Find[] finds = new Find[FINDS];
        int cells;
        int tideMinute;
        int moon;
        int duel;
        int day;
        int finderCount;
        int findCount;
        /** What the latest deed that was done tells. */
        int outcome;

        Beach() {
            for (int i = 0; i < FINDERS; i++) {
                finders[i] = new Finder();
            }
            for (int i = 0; i < FINDS; i++) {
                finds[i] = new Find();
            }
            clear();
        }

        void clear() {
            cells = 2;
            tideMinute = 60;
            moon = 0;
            duel = FIRST;
            day = 0;
            finderCount = 0;
            findCount = 0;
            outcome = 0;
        }

        void copyFrom(Beach other) {
            cells = other.cells;
            tideMinute = other.tideMinute;
            moon = other.moon;
            duel = other.duel;
            day = other.day;
            finderCount = other.finderCount;
            findCount = other.findCount;
            outcome = other.outcome;
            for (int i = 0; i < finderCount; i++) {
                finders[i].becomeLike(other.finders[i]);
            }
            for (int i = 0; i < findCount; i++) {
                finds[i].becomeLike(other.finds[i]);
            }
        }

        void addFinder(long name, int cell, int pace, int pebbles) {
            if (finderCount >= FINDERS) {
                return;
            }
            Finder who = finders[finderCount];
            who.name = name;
            who.cell = cell;
            who.pace = pace;
            who.pebbles = pebbles;
            who.clock = 0;
            who.kept = 0;
            finderCount++;
        }

        void addFind(long name, int cell, int worth) {
            if (findCount >= FINDS) {
                return;
            }
            Find one = finds[findCount];
            one.name = name;
            one.cell = cell;
            one.worth = worth;
            one.there = true;
            one.count = 0;
            findCount++;
        }

        Finder finderAt(int finder) {
            return finder >= 0 && finder < finderCount ? finders[finder] : null;
        }

        Find findAt(int find) {
            return find >= 0 && find < findCount ? finds[find] : null;
        }

        int finderNamed(long name) {
            for (int i = 0; i < finderCount; i++) {
                if (finders[i].name == name) {
                    return i;
                }
            }
            return NONE;
        }

        int findNamed(long name) {
            for (int i = 0; i < findCount; i++) {
                if (finds[i].name == name) {
                    return i;
                }
            }
            return NONE;
        }

        int thereSet() {
            int set = 0;
            for (int i = 0; i < findCount; i++) {
                if (finds[i].there) {
                    set |= 1 << i;
                }
            }
            return set;
        }

        int lying() {
            int many = 0;
            for (int i = 0; i < findCount; i++) {
                many += finds[i].count;
            }
            return many;
        }

        private int done(int told) {
            outcome = told;
            return DONE;
        }

        private int spend(Finder who, int minutes) {
            if (minutes > tideMinute - who.clock) {
                return CANNOT_BE;
            }
            who.clock += minutes;
            return done(who.clock);
        }

        int walkTo(int finder, int cell) {
            Finder who = finderAt(finder);
            if (who == null || cell < 0 || cell >= cells) {
                return NO_SUCH_NUMBER;
            }
            int why = spend(who, who.minutesTo(cell));
            if (why == DONE) {
                who.cell = cell;
            }
            return why;
        }

        int waitFor(int finder, int minutes) {
            Finder who = finderAt(finder);
            if (who == null || minutes < 1 || minutes > MINUTES_MOST) {
                return NO_SUCH_NUMBER;
            }
            return spend(who, minutes);
        }

        int layOn(int finder, int find) {
            Finder who = finderAt(finder);
            Find one = findAt(find);
            if (who == null || one == null) {
                return NO_SUCH_NUMBER;
            }
            if (lying() >= PEBBLES) {
                return TOO_MANY;
            }
            if (who.pebbles == 0) {
                return NONE_SUCH;
            }
            if (who.cell != one.cell || !one.there) {
                return CANNOT_BE;
            }
            who.pebbles--;
            one.insert(finder, who.clock);
            return done(one.count);
        }

        int takeUp(int finder, int find) {
            Finder who = finderAt(finder);
            Find one = findAt(find);
            if (who == null || one == null) {
                return NO_SUCH_NUMBER;
            }
            int k = one.newestOf(finder);
            if (!one.has(k)) {
                return NONE_SUCH;
            }
            if (who.cell != one.cell) {
                return CANNOT_BE;
            }
            int minute = one.minutes[k];
            one.removeAt(k);
            who.pebbles++;
            return done(minute);
        }

        int carry(int from, int to) {
            Find source = findAt(from);
            Find goal = findAt(to);
            if (source == null || goal == null || from == to) {
                return NO_SUCH_NUMBER;
            }
            int k = source.count - 1;
            if (!source.has(k)) {
                return NONE_SUCH;
            }
            if (!source.there || !goal.there) {
                return CANNOT_BE;
            }
            int owner = source.owners[k];
            int minute = source.minutes[k];
            source.removeAt(k);
            goal.insert(owner, minute);
            return done(owner);
        }

        int washBelow(int cell) {
            if (cell < 0 || cell > CELLS_MOST) {
                return NO_SUCH_NUMBER;
            }
            int washed = 0;
            for (int i = 0; i < findCount; i++) {
                if (finds[i].cell < cell) {
                    washed += finds[i].count;
                    finds[i].count = 0;
                }
            }
            return done(washed);
        }

        int comeTide() {
            if (day >= DAY_MOST) {
                return TOO_MANY;
            }
            if (thereSet() == 0) {
                return CANNOT_BE;
            }
            for (int i = 0; i < findCount; i++) {
                give(finds[i].worth, heirs(finds[i]));
            }
            for (int i = 0; i < finderCount; i++) {
                finders[i].pebbles += strewnBy(i);
                finders[i].clock = 0;
            }
            for (int i = 0; i < findCount; i++) {
                finds[i].there = false;
                finds[i].count = 0;
            }
            tideMinute = tideAfter(1);
            day++;
            return done(day);
        }

        private void give(int worth, int set) {
            int many = Integer.bitCount(set);
            for (int i = 0; i < finderCount && many > 0; i++) {
                if ((set >> i & 1) == 1) {
                    finders[i].kept += worth / many;
                }
            }
        }

        int comeDawn() {
            if (thereSet() != 0) {
                return CANNOT_BE;
            }
            for (int i = 0; i < findCount; i++) {
                finds[i].there = true;
            }
            return done(findCount);
        }

        int tideAfter(int days) {
            return Math.max(1, tideMinute - moon * days);
        }

        /** Whose the find is, if the tide came now: a set. */
        int heirs(Find one) {
            int set = one.lastSet();
            if (Integer.bitCount(set) < 2) {
                return set;
            }
            switch (duel) {
                case NOBODYS: return 0;
                case FIRST: return firstOf(set);
                case LAST: return lastOf(set);
                default: return set;
            }
        }

        private static int firstOf(int set) {
            for (int i = 0; i < FINDERS; i++) {
                if ((set >> i & 1) == 1) {
                    return 1 << i;
                }
            }
            return 0;
        }

        private static int lastOf(int set) {
            for (int i = FINDERS - 1; i >= 0; i--) {
                if ((set >> i & 1) == 1) {
                    return 1 << i;
                }
            }
            return 0;
        }

        int shareOf(int finder, Find one) {
            int set = heirs(one);
            int many = Integer.bitCount(set);
            return many > 0 && (set >> finder & 1) == 1 ? one.worth / many : 0;
        }

        int leadOf(int finder) {
            int worth = 0;
            for (int i = 0; i < findCount; i++) {
                worth += shareOf(finder, finds[i]);
            }
            return worth;
        }

        /** The k-th finder by what they lead by, NONE without such a one. */
        int ranking(int k) {
            for (int i = 0; i < finderCount; i++) {
                if (findersAhead(i) == k) {
                    return i;
                }
            }
            return NONE;
        }

        private int findersAhead(int finder) {
            int lead = leadOf(finder);
            int ahead = 0;
            for (int i = 0; i < finderCount; i++) {
                int other = leadOf(i);
                if (other > lead || other == lead && i < finder) {
                    ahead++;
                }
            }
            return ahead;
        }

        int keptBy(int finder) {
            Finder who = finderAt(finder);
            return who == null ? 0 : who.kept;
        }

        int strewnBy(int finder) {
            int many = 0;
            for (int i = 0; i < findCount; i++) {
                many += finds[i].tallyOf(finder);
            }
            return many;
        }

        /** The first minute of a pebble that would be alone the last one, NONE if there is none by the tide. */
        int soonestOf(int finder, Find one) {
            Finder who = finderAt(finder);
            if (who == null || !one.there || who.pebbles == 0) {
                return NONE;
            }
            int minute = Math.max(who.clock + who.minutesTo(one.cell), one.behindOthers(finder));
            return minute <= tideMinute ? minute : NONE;
        }

        int threatTo(Find one) {
            int set = 0;
            for (int i = 0; i < finderCount; i++) {
                if (soonestOf(i, one) != NONE) {
                    set |= 1 << i;
                }
            }
            return set;
        }

        int sightOf(Finder who, int reach) {
            int set = 0;
            for (int i = 0; i < findCount; i++) {
                if (finds[i].there && Math.abs(finds[i].cell - who.cell) <= reach) {
                    set |= 1 << i;
                }
            }
            return set;
        }

        int findersIn(int from, int many) {
            int inside = 0;
            for (int i = 0; i < finderCount; i++) {
                if (finders[i].cell >= from && finders[i].cell < from + many) {
                    inside++;
                }
            }
            return inside;
        }

        /** Where the k-th boy from the left stands, NONE without such a one. */
        int boyCell(int reach, int k) {
            int cell = NONE;
            int unwatched = 0;
            for (int i = 0; i <= k && i <= FINDS; i++) {
                int leftmost = leftmostFrom(unwatched);
                if (leftmost == NONE) {
                    return NONE;
                }
                cell = Math.min(leftmost + reach, cells - 1);
                unwatched = cell + reach + 1;
            }
            return cell;
        }

        private int leftmostFrom(int cell) {
            int leftmost = NONE;
            for (int i = 0; i < findCount; i++) {
                Find one = finds[i];
                if (one.there && one.cell >= cell && (leftmost == NONE || one.cell < leftmost)) {
                    leftmost = one.cell;
                }
            }
            return leftmost;
        }
    }

    /** The best row of finds for one finder. */
    private static final class Round {
        private static final int SETS = 1 << Beach.FINDS;
        private static final int PLACES = Beach.FINDS + 1;
        /** The place ahead of all finds: where the finder is now. */
        private static final int START = Beach.FINDS;
        private static final int NEVER = 1000000;

        /** By set and place: the latest minute there from which all finds of the set can still be had. */
        private final int[] latestStart = new int[SETS * PLACES];
        private final int[] cells = new int[PLACES];
        private final int[] opens = new int[Beach.FINDS];
        private final int[] worths = new int[Beach.FINDS];
        private final int[] trial = new int[Beach.FINDS];
        final int[] row = new int[Beach.FINDS];
        int rowLength;
        private int many;
        private int pace;
        private int clock;
        private int pebbles;

        void prepare(Beach beach, int finder, int later) {
            Finder who = beach.finderAt(finder);
            if (who == null) {
                return;
            }
            many = beach.findCount;
            pace = who.pace;
            clock = who.clock;
            pebbles = who.pebbles;
            cells[START] = who.cell;
            for (int i = 0; i < many; i++) {
                Find one = beach.finds[i];
                cells[i] = one.cell;
                worths[i] = one.worth;
                opens[i] = one.there ? one.behindOthers(finder) : NEVER;
            }
            for (int set = 0; set < 1 << many; set++) {
                for (int from = 0; from < PLACES; from++) {
                    latestStart[set * PLACES + from] = latestFor(set, from, beach.tideMinute + later);
                }
            }
        }

        private int latestFor(int set, int from, int end) {
            if (set == 0) {
                return end;
            }
            int latest = -NEVER;
            for (int i = 0; i < many; i++) {
                if ((set >> i & 1) == 1) {
                    int due = dueAt(set, i);
                    if (opens[i] <= due) {
                        latest = Math.max(latest, due - minutesBetween(from, i));
                    }
                }
            }
            return latest;
        }

        /** The latest minute of a pebble on a find of the set that leaves time for the set's others. */
        private int dueAt(int set, int find) {
            return latestStart[(set & ~(1 << find)) * PLACES + find];
        }

        private int minutesBetween(int from, int find) {
            return pace * Math.abs(cells[from] - cells[find]);
        }

        private boolean fits(int set) {
            return Integer.bitCount(set) <= pebbles && clock <= latestStart[set * PLACES + START];
        }

        private int worthOf(int set) {
            int worth = 0;
            for (int i = 0; i < many; i++) {
                if ((set >> i & 1) == 1) {
                    worth += worths[i];
                }
            }
            return worth;
        }

        int bestWorth() {
            int most = 0;
            for (int set = 0; set < 1 << many; set++) {
                if (fits(set)) {
                    most = Math.max(most, worthOf(set));
                }
            }
            return most;
        }

        void chooseRow() {
            int most = bestWorth();
            int fewest = fewestFor(most);
            boolean chosen = false;
            for (int set = 0; set < 1 << many; set++) {
                if (fits(set) && worthOf(set) == most && Integer.bitCount(set) == fewest) {
                    layTrial(set, fewest);
                    if (!chosen || trialIsAhead(fewest)) {
                        System.arraycopy(trial, 0, row, 0, fewest);
                        chosen = true;
                    }
                }
            }
            rowLength = fewest;
        }

        private int fewestFor(int worth) {
            int fewest = many;
            for (int set = 0; set < 1 << many; set++) {
                if (fits(set) && worthOf(set) == worth) {
                    fewest = Math.min(fewest, Integer.bitCount(set));
                }
            }
            return fewest;
        }

        private void layTrial(int set, int length) {
            int rest = set;
            int from = START;
            int minute = clock;
            for (int k = 0; k < length; k++) {
                int next = firstNext(rest, from, minute);
                trial[k] = next;
                minute = minuteAt(next, from, minute);
                rest &= ~(1 << next);
                from = next;
            }
        }

        private int minuteAt(int find, int from, int minute) {
            return Math.max(minute + minutesBetween(from, find), opens[find]);
        }

        private int firstNext(int rest, int from, int minute) {
            for (int i = 0; i < many; i++) {
                if ((rest >> i & 1) == 1 && minuteAt(i, from, minute) <= dueAt(rest, i)) {
                    return i;
                }
            }
            return 0;
        }

        private boolean trialIsAhead(int length) {
            for (int k = 0; k < length; k++) {
                if (trial[k] != row[k]) {
                    return trial[k] < row[k];
                }
            }
            return false;
        }
    }

    /** The words that are no names, by their places in ALL. */
    private static final class Word {
        static final String ALL = "beach tide moon finder at pace pebbles find worth pebble of on duel none first last share to go set wait lift gull wave when leads free loop end stop ";
        static final int COUNT = 30;
        static final int BEACH = 0;
        static final int TIDE = 1;
        static final int MOON = 2;
        static final int FINDER = 3;
        static final int AT = 4;
        static final int PACE = 5;
        static final int PEBBLES = 6;
        static final int FIND = 7;
        static final int WORTH = 8;
        static final int PEBBLE = 9;
        static final int OF = 10;
        static final int ON = 11;
        static final int DUEL = 12;
        static final int NOBODY = 13;
        static final int LAST = 15;
        static final int SHARE = 16;
        static final int TO = 17;
        static final int GO = 18;
        static final int SET = 19;
        static final int WAIT = 20;
        static final int LIFT = 21;
        static final int GULL = 22;
        static final int WAVE = 23;
        static final int WHEN = 24;
        static final int LEADS = 25;
        static final int FREE = 26;
        static final int LOOP = 27;
        static final int END = 28;
        static final int STOP = 29;
    }

    /** The tape, and the tokens of the text that it held last; the first fault that is met stays. */
    private static final class Reader {
        static final int NO_TOKEN = 1;
        static final int MISPLACED = 2;
        static final int BAD_NAME = 3;
        static final int BAD_NUMBER = 4;
        static final int SECOND_DUEL = 5;
        static final int ONE_MORE = 6;
        static final int TOO_DEEP = 7;

        private static final int OVER = 0;
        private static final int UNKNOWN = 1;
        private static final int SIGN = 2;
        private static final int NUMBER = 3;
        private static final int NAME = 4;
        private static final int WORD = 5;
        private static final int LONG_WORD = 6;

        static final int TAPE_BYTES = 900;
        private static final int BYTES_FED = 20;
        private static final int LETTERS_MOST = 8;
        private static final int DIGITS_MOST = 4;

        private final byte[] tape = new byte[TAPE_BYTES];
        private final int[] kinds = new int[TAPE_BYTES + 1];
        private final int[] places = new int[TAPE_BYTES + 1];
        /** Of a sign its letter, of a number itself, of a name its letters packed, of a word its place in Word. */
        private final long[] values = new long[TAPE_BYTES + 1];
        /** The words of Word, packed as names are. */
        private final long[] words = new long[Word.COUNT];
        int fed;
        int fault = NONE;
        int faultPlace = NONE;
        private int length;
        private int scanned;
        private int tokens;
        private int at;

        Reader() {
            int k = 0;
            long letters = 0;
            for (int i = 0; i < Word.ALL.length() && k < Word.COUNT; i++) {
                char c = Word.ALL.charAt(i);
                if (c == ' ') {
                    words[k] = letters;
                    letters = 0;
                    k++;
                } else {
                    letters = pack(letters, c);
                }
            }
        }

        private static long pack(long letters, int letter) {
            return letters * 32 + (letter - 'a' + 1);
        }

        boolean hasRoom() {
            return fed <= TAPE_BYTES - BYTES_FED;
        }

        void feedInt(int four) {
            for (int shift = 24; shift >= 0 && fed < TAPE_BYTES; shift -= 8) {
                tape[fed] = (byte) (four >> shift);
                fed++;
            }
        }

        /** The first bytes of the tape are the text from now on, the tape is empty. */
        void begin(int bytes) {
            length = Math.min(bytes, fed);
            fed = 0;
            fault = 0;
            faultPlace = NONE;
            tokens = 0;
            scanned = 0;
            at = 0;
            skipBlanks();
            for (int i = 0; i < TAPE_BYTES && scanned < length; i++) {
                scanToken();
                skipBlanks();
            }
            addToken(OVER, length, 0);
        }

        private void skipBlanks() {
            while (scanned < length && (tape[scanned] == ' ' || tape[scanned] == '\n')) {
                scanned++;
            }
        }

        private void addToken(int kind, int place, long value) {
            if (tokens <= TAPE_BYTES) {
                kinds[tokens] = kind;
                places[tokens] = place;
                values[tokens] = value;
                tokens++;
            }
        }

        private void scanToken() {
            int c = tape[scanned];
            if (isLetter(c)) {
                scanWord();
            } else if (isDigit(c)) {
                scanNumber();
            } else {
                boolean sign = c == ';' || c == '<' || c == '>' || c == '=';
                addToken(sign ? SIGN : UNKNOWN, scanned, c);
                scanned++;
            }
        }

        private static boolean isLetter(int c) {
            return c >= 'a' && c <= 'z';
        }

        private static boolean isDigit(int c) {
            return c >= '0' && c <= '9';
        }

        private void scanWord() {
            int from = scanned;
            long letters = 0;
            while (scanned < length && isLetter(tape[scanned])) {
                if (scanned - from < LETTERS_MOST) {
                    letters = pack(letters, tape[scanned]);
                }
                scanned++;
            }
            if (scanned - from > LETTERS_MOST) {
                addToken(LONG_WORD, from, 0);
                return;
            }
            int which = wordOf(letters);
            if (which == NONE) {
                addToken(NAME, from, letters);
            } else {
                addToken(WORD, from, which);
            }
        }

        private int wordOf(long letters) {
            for (int i = 0; i < Word.COUNT; i++) {
                if (words[i] == letters) {
                    return i;
                }
            }
            return NONE;
        }

        private void scanNumber() {
            int from = scanned;
            int number = 0;
            while (scanned < length && isDigit(tape[scanned])) {
                if (scanned - from < DIGITS_MOST) {
                    number = number * 10 + (tape[scanned] - '0');
                }
                scanned++;
            }
            addToken(scanned - from > DIGITS_MOST ? UNKNOWN : NUMBER, from, number);
        }

        boolean fail(int why) {
            if (fault == 0) {
                fault = kinds[at] == UNKNOWN ? NO_TOKEN : why;
                faultPlace = places[at];
            }
            return false;
        }

        private void advance() {
            if (at < tokens - 1) {
                at++;
            }
        }

        boolean isOver() {
            return kinds[at] == OVER;
        }

        /** Which of Word's words stands here, NONE if none of them does. */
        int wordHere() {
            return kinds[at] == WORD ? (int) values[at] : NONE;
        }

        boolean takeWord(int which) {
            if (kinds[at] != WORD || values[at] != which) {
                return fail(MISPLACED);
            }
            advance();
            return true;
        }

        boolean takeSign(char sign) {
            if (kinds[at] != SIGN || values[at] != sign) {
                return fail(MISPLACED);
            }
            advance();
            return true;
        }

        /** One of < > =, NONE if it is a fault. */
        int takeCompares() {
            if (kinds[at] != SIGN || values[at] == ';') {
                fail(MISPLACED);
                return NONE;
            }
            int sign = (int) values[at];
            advance();
            return sign;
        }

        /** The number, NONE if it is a fault. */
        int takeNumber(int least, int most) {
            if (kinds[at] != NUMBER) {
                fail(MISPLACED);
                return NONE;
            }
            int number = (int) values[at];
            if (number < least || number > most) {
                fail(BAD_NUMBER);
                return NONE;
            }
            advance();
            return number;
        }

        int takeNumberBehind(int which, int least, int most) {
            return takeWord(which) ? takeNumber(least, most) : NONE;
        }

        /** The name packed, NONE if it is a fault. */
        long takeNewName(Beach beach) {
            if (kinds[at] != NAME) {
                fail(MISPLACED);
                return NONE;
            }
            long name = values[at];
            if (beach.finderNamed(name) != NONE || beach.findNamed(name) != NONE) {
                fail(BAD_NAME);
                return NONE;
            }
            advance();
            return name;
        }

        int takeFinder(Beach beach) {
            return takeKnown(beach.finderNamed(values[at]));
        }

        int takeFind(Beach beach) {
            return takeKnown(beach.findNamed(values[at]));
        }

        private int takeKnown(int which) {
            if (kinds[at] != NAME) {
                fail(MISPLACED);
                return NONE;
            }
            if (which == NONE) {
                fail(BAD_NAME);
                return NONE;
            }
            advance();
            return which;
        }

        int takeFindBehind(int which, Beach beach) {
            return takeWord(which) ? takeFind(beach) : NONE;
        }
    }

    /** Takes a beach from the reader's text. */
    private static final class BeachText {
        private static final int CELLS_LEAST = 2;
        private static final int MOON_MOST = 60;
        private static final int PACE_MOST = 9;
        private static final int PEBBLES_MOST = 20;
        private static final int WORTH_MOST = 999;
        private static final int LYING_MOST = 30;

        private final Reader reader;
        private Beach beach;
        private boolean duelTold;

        BeachText(Reader reader) {
            this.reader = reader;
        }

        /** False if the text has a fault; then the goal is of no use. */
        boolean takeBeach(Beach goal) {
            beach = goal;
            beach.clear();
            duelTold = false;
            boolean well = takeHead();
            for (int i = 0; i < Reader.TAPE_BYTES && well && !reader.isOver(); i++) {
                well = takePart();
            }
            return well;
        }

        private boolean takeHead() {
            int cells = reader.takeNumberBehind(Word.BEACH, CELLS_LEAST, CELLS_MOST);
            if (cells == NONE) {
                return false;
            }
            int minute = reader.takeNumberBehind(Word.TIDE, 1, MINUTES_MOST);
            if (minute == NONE) {
                return false;
            }
            beach.cells = cells;
            beach.tideMinute = minute;
            if (reader.wordHere() == Word.MOON) {
                int moon = reader.takeNumberBehind(Word.MOON, 0, MOON_MOST);
                if (moon == NONE) {
                    return false;
                }
                beach.moon = moon;
            }
            return reader.takeSign(';');
        }

        private boolean takePart() {
            switch (reader.wordHere()) {
                case Word.FINDER: return takeFinderPart();
                case Word.FIND: return takeFindPart();
                case Word.PEBBLE: return takePebblePart();
                case Word.DUEL: return takeDuelPart();
                default: return reader.fail(Reader.MISPLACED);
            }
        }

        private boolean takeFinderPart() {
            if (beach.finderCount >= Beach.FINDERS) {
                return reader.fail(Reader.ONE_MORE);
            }
            reader.takeWord(Word.FINDER);
            long name = reader.takeNewName(beach);
            if (name == NONE) {
                return false;
            }
            int cell = reader.takeNumberBehind(Word.AT, 0, beach.cells - 1);
            if (cell == NONE) {
                return false;
            }
            int pace = reader.takeNumberBehind(Word.PACE, 1, PACE_MOST);
            if (pace == NONE) {
                return false;
            }
            int pebbles = reader.takeNumberBehind(Word.PEBBLES, 0, PEBBLES_MOST);
            if (pebbles == NONE) {
                return false;
            }
            beach.addFinder(name, cell, pace, pebbles);
            return reader.takeSign(';');
        }

        private boolean takeFindPart() {
            if (beach.findCount >= Beach.FINDS) {
                return reader.fail(Reader.ONE_MORE);
            }
            reader.takeWord(Word.FIND);
            long name = reader.takeNewName(beach);
            if (name == NONE) {
                return false;
            }
            int cell = reader.takeNumberBehind(Word.AT, 0, beach.cells - 1);
            if (cell == NONE) {
                return false;
            }
            int worth = reader.takeNumberBehind(Word.WORTH, 0, WORTH_MOST);
            if (worth == NONE) {
                return false;
            }
            beach.addFind(name, cell, worth);
            return reader.takeSign(';');
        }

        private boolean takePebblePart() {
            if (beach.lying() >= LYING_MOST) {
                return reader.fail(Reader.ONE_MORE);
            }
            reader.takeWord(Word.PEBBLE);
            int owner = reader.takeWord(Word.OF) ? reader.takeFinder(beach) : NONE;
            if (owner == NONE) {
                return false;
            }
            Find one = beach.findAt(reader.takeFindBehind(Word.ON, beach));
            if (one == null) {
                return false;
            }
            int minute = reader.takeNumberBehind(Word.AT, 0, beach.tideMinute);
            if (minute == NONE) {
                return false;
            }
            one.insert(owner, minute);
            return reader.takeSign(';');
        }

        private boolean takeDuelPart() {
            if (duelTold) {
                return reader.fail(Reader.SECOND_DUEL);
            }
            reader.takeWord(Word.DUEL);
            int who = reader.wordHere();
            if (who < Word.NOBODY || who > Word.SHARE) {
                return reader.fail(Reader.MISPLACED);
            }
            reader.takeWord(who);
            beach.duel = who - Word.NOBODY;
            duelTold = true;
            return reader.takeSign(';');
        }
    }

    /** Steps and ends in a row. What a step does is told by its word: of a when, by its test's. */
    private static final class Days {
        static final int STEPS = 30;
        static final int LONGEST = 2 * STEPS;

        final int[] words = new int[LONGEST];
        /** Which finder it is of, or its only number. */
        final int[] first = new int[LONGEST];
        /** Which find it is of, or its number. */
        final int[] second = new int[LONGEST];
        /** How it compares. */
        final int[] third = new int[LONGEST];
        /** Of a when or loop its end, of an end its beginning. */
        final int[] partners = new int[LONGEST];
        boolean taken;
        int steps;
        int length;

        void clear() {
            taken = false;
            steps = 0;
            length = 0;
        }

        void copyFrom(Days other) {
            taken = other.taken;
            steps = other.steps;
            length = other.length;
            System.arraycopy(other.words, 0, words, 0, length);
            System.arraycopy(other.first, 0, first, 0, length);
            System.arraycopy(other.second, 0, second, 0, length);
            System.arraycopy(other.third, 0, third, 0, length);
            System.arraycopy(other.partners, 0, partners, 0, length);
        }

        void append(int word, int a, int b, int c) {
            if (length >= LONGEST) {
                return;
            }
            words[length] = word;
            first[length] = a;
            second[length] = b;
            third[length] = c;
            partners[length] = NONE;
            length++;
        }

        void appendEnd(int beginning) {
            if (length >= LONGEST || beginning < 0 || beginning >= length) {
                return;
            }
            int end = length;
            append(Word.END, 0, 0, 0);
            partners[end] = beginning;
            partners[beginning] = end;
        }
    }

    /** Takes days from the reader's text. */
    private static final class DaysText {
        private static final int DEEPEST = 3;
        private static final int LEADS_MOST = 9999;
        private static final int LOOPS_MOST = 99;

        private final Reader reader;
        private final int[] beginnings = new int[DEEPEST];
        private int depth;
        private Beach beach;
        private Days days;

        DaysText(Reader reader) {
            this.reader = reader;
        }

        /** False if the text has a fault; then the goal is of no use. */
        boolean takeDays(Beach there, Days goal) {
            beach = there;
            days = goal;
            days.clear();
            depth = 0;
            boolean well = true;
            for (int i = 0; i < DAYS_BYTES && well && !reader.isOver(); i++) {
                well = (reader.wordHere() == Word.END ? takeEnd() : takeStep(beginStep())) && reader.takeSign(';');
            }
            if (well && depth > 0) {
                well = reader.fail(Reader.MISPLACED);
            }
            days.taken = well;
            return well;
        }

        private boolean takeEnd() {
            if (depth <= 0 || depth > DEEPEST) {
                return reader.fail(Reader.MISPLACED);
            }
            reader.takeWord(Word.END);
            depth--;
            days.appendEnd(beginnings[depth]);
            return true;
        }

        /** What word tells what the step does, NONE if it is a fault. */
        private int beginStep() {
            int word = reader.wordHere();
            boolean block = word == Word.WHEN || word == Word.LOOP;
            if (!block && !isPlain(word)) {
                reader.fail(Reader.MISPLACED);
                return NONE;
            }
            if (days.steps >= Days.STEPS) {
                reader.fail(Reader.ONE_MORE);
                return NONE;
            }
            if (block && depth >= DEEPEST) {
                reader.fail(Reader.TOO_DEEP);
                return NONE;
            }
            reader.takeWord(word);
            days.steps++;
            if (block) {
                beginnings[depth] = days.length;
                depth++;
            }
            return word == Word.WHEN ? beginTest() : word;
        }

        private int beginTest() {
            int word = reader.wordHere();
            if (word != Word.LEADS && word != Word.LAST && word != Word.FREE) {
                reader.fail(Reader.MISPLACED);
                return NONE;
            }
            reader.takeWord(word);
            return word;
        }

        private static boolean isPlain(int word) {
            return word >= Word.GO && word <= Word.WAVE || word == Word.TIDE || word == Word.STOP;
        }

        private boolean takeStep(int word) {
            switch (word) {
                case NONE: return false;
                case Word.GO: return takeGo();
                case Word.SET: return takeOnFind(Word.SET);
                case Word.WAIT: return takeWait();
                case Word.LIFT: return takeOnFind(Word.LIFT);
                case Word.GULL: return takeOnlyNumber(Word.GULL, 0, SIXTEENTHS);
                case Word.WAVE: return takeOnlyNumber(Word.WAVE, 0, CELLS_MOST);
                case Word.LOOP: return takeOnlyNumber(Word.LOOP, 1, LOOPS_MOST);
                case Word.LEADS: return takeLeads();
                case Word.LAST: return takeOnFind(Word.LAST);
                case Word.FREE: return takeFree();
                default: return add(word, 0, 0, 0);
            }
        }

        private boolean add(int word, int a, int b, int c) {
            days.append(word, a, b, c);
            return true;
        }

        private boolean takeGo() {
            int finder = reader.takeFinder(beach);
            if (finder == NONE) {
                return false;
            }
            int cell = reader.takeNumberBehind(Word.TO, 0, beach.cells - 1);
            return cell != NONE && add(Word.GO, finder, cell, 0);
        }

        private boolean takeWait() {
            int finder = reader.takeFinder(beach);
            if (finder == NONE) {
                return false;
            }
            int minutes = reader.takeNumber(1, MINUTES_MOST);
            return minutes != NONE && add(Word.WAIT, finder, minutes, 0);
        }

        private boolean takeOnFind(int word) {
            int finder = reader.takeFinder(beach);
            if (finder == NONE) {
                return false;
            }
            int find = reader.takeFindBehind(Word.ON, beach);
            return find != NONE && add(word, finder, find, 0);
        }

        private boolean takeOnlyNumber(int word, int least, int most) {
            int number = reader.takeNumber(least, most);
            return number != NONE && add(word, number, 0, 0);
        }

        private boolean takeFree() {
            int find = reader.takeFind(beach);
            return find != NONE && add(Word.FREE, 0, find, 0);
        }

        private boolean takeLeads() {
            int finder = reader.takeFinder(beach);
            if (finder == NONE) {
                return false;
            }
            int compares = reader.takeCompares();
            if (compares == NONE) {
                return false;
            }
            int number = reader.takeNumber(0, LEADS_MOST);
            return number != NONE && add(Word.LEADS, finder, number, compares);
        }
    }

    /** Does the steps of days on a beach. */
    private static final class Life {
        static final int COUNTS = 5;

        private static final int STEPS_MOST = 300;
        private static final int MOVES_MOST = 1000000;
        private static final int MISSED = 0;
        private static final int CARRIED = 1;
        private static final int WASHED = 2;
        private static final int TIDES = 3;
        private static final int CUT_OFF = 4;

        /** What lived() tells, in its order. */
        final int[] counts = new int[COUNTS];
        private final int[] roundsLeft = new int[Days.LONGEST];
        private Beach beach;
        private Days days;
        private int drawn;

        /** How many steps were come to. */
        int liveThrough(Beach there, Days plan, int seed) {
            beach = there;
            days = plan;
            drawn = seed;
            for (int i = 0; i < COUNTS; i++) {
                counts[i] = 0;
            }
            int steps = 0;
            int at = 0;
            for (int move = 0; move < MOVES_MOST && at >= 0 && at < days.length; move++) {
                if (days.words[at] == Word.END) {
                    at = behindEnd(at);
                } else if (steps == STEPS_MOST) {
                    counts[CUT_OFF] = 1;
                    at = days.length;
                } else {
                    steps++;
                    at = behindStep(at);
                }
            }
            return steps;
        }

        private int behindEnd(int at) {
            int beginning = days.partners[at];
            if (beginning < 0 || beginning >= at || days.words[beginning] != Word.LOOP) {
                return at + 1;
            }
            roundsLeft[beginning]--;
            return roundsLeft[beginning] > 0 ? beginning + 1 : at + 1;
        }

        private int behindStep(int at) {
            int first = days.first[at];
            int second = days.second[at];
            switch (days.words[at]) {
                case Word.GO: return tried(at, beach.walkTo(first, second));
                case Word.SET: return tried(at, beach.layOn(first, second));
                case Word.WAIT: return tried(at, beach.waitFor(first, second));
                case Word.LIFT: return tried(at, beach.takeUp(first, second));
                case Word.GULL: return gullMayCarry(at, first);
                case Word.WAVE: return comeWave(at, first);
                case Word.TIDE: return comeTideAndDawn(at);
                case Word.LOOP: return beginLoop(at, first);
                case Word.LEADS: return behindTest(at, compares(beach.leadOf(first), days.third[at], second));
                case Word.LAST: return behindTest(at, isLast(first, beach.findAt(second)));
                case Word.FREE: return behindTest(at, isFree(beach.findAt(second)));
                default: return days.length;
            }
        }

        private int tried(int at, int why) {
            if (why != DONE) {
                counts[MISSED]++;
            }
            return at + 1;
        }

        private int gullMayCarry(int at, int sixteenths) {
            boolean comes = draw(SIXTEENTHS) < sixteenths;
            if (comes && beach.findCount >= 2) {
                int from = draw(beach.findCount);
                int to = draw(beach.findCount - 1);
                if (to >= from) {
                    to++;
                }
                if (beach.carry(from, to) == DONE) {
                    counts[CARRIED]++;
                }
            }
            return at + 1;
        }

        private int draw(int many) {
            drawn = (drawn * 2843 + 10709) % 65536;
            return many > 0 ? drawn / 8 % many : 0;
        }

        private int comeWave(int at, int cells) {
            int why = beach.washBelow(cells);
            if (why == DONE) {
                counts[WASHED] += beach.outcome;
            }
            return tried(at, why);
        }

        private int comeTideAndDawn(int at) {
            int why = beach.comeTide();
            if (why == DONE) {
                beach.comeDawn();
                counts[TIDES]++;
            }
            return tried(at, why);
        }

        private int beginLoop(int at, int rounds) {
            roundsLeft[at] = rounds;
            return at + 1;
        }

        private int behindTest(int at, boolean holds) {
            return holds ? at + 1 : days.partners[at] + 1;
        }

        private static boolean compares(int lead, int sign, int number) {
            switch (sign) {
                case '<': return lead < number;
                case '>': return lead > number;
                default: return lead == number;
            }
        }

        private static boolean isLast(int finder, Find one) {
            return one != null && (one.lastSet() >> finder & 1) == 1;
        }

        private static boolean isFree(Find one) {
            return one != null && one.there && one.count == 0;
        }
    }
}
