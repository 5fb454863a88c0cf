/**
 * All that calls tell of an object, in one text: two objects of one text are alike. What can be told only by a call
 * that changes something (the tape, the days, the marks) is told by doing it, so the object is of no use behind it.
 */
final class Shot {
    private final LastPebble x;
    private final StringBuilder told = new StringBuilder();

    private Shot(LastPebble x) {
        this.x = x;
    }

    /** Without the texts: but for the tape and what fault() tells. */
    static String of(LastPebble x, boolean texts) {
        Shot shot = new Shot(x);
        shot.add("fraction", x.top(), x.bottom());
        if (texts) {
            shot.add("fault", x.fault(0), x.fault(1));
        }
        shot.addTrays();
        shot.addRows();
        shot.addBeach();
        shot.addLife();
        while (x.back() != LastPebble.NONE) {
            shot.add("mark");
            shot.addBeach();
            shot.addLife();
        }
        if (texts) {
            shot.addTape();
        }
        return shot.told.toString();
    }

    private void add(String what, long... answers) {
        told.append(what);
        for (long answer : answers) {
            told.append(' ').append(answer);
        }
        told.append('\n');
    }

    private void addTrays() {
        for (int tray = 0; tray < 4; tray++) {
            int place = 0;
            long number = x.read(tray, place);
            while (x.status() == 0) {
                add("tray " + tray, number);
                place++;
                number = x.read(tray, place);
            }
            add("tray " + tray + " ends", place, x.status());
        }
    }

    private void addRows() {
        for (int k = 0; x.bestAt(k) != LastPebble.NONE; k++) {
            add("bestAt", x.bestAt(k));
        }
        for (int what = 0; what < 5; what++) {
            add("lived", x.lived(what));
        }
    }

    private void addBeach() {
        for (int what = 0; what < 9; what++) {
            add("told", x.told(what));
        }
        for (int f = 0; x.finder(f, 0) != LastPebble.NONE; f++) {
            add("finder", x.finder(f, 0), x.finder(f, 1), x.finder(f, 2), x.finder(f, 3), x.finder(f, 4));
        }
        for (int f = 0; x.find(f, 0) != LastPebble.NONE; f++) {
            add("find", x.find(f, 0), x.find(f, 1), x.find(f, 2));
            for (int k = 0; x.pebble(f, k, 0) != LastPebble.NONE; k++) {
                add("pebble", x.pebble(f, k, 0), x.pebble(f, k, 1));
            }
        }
    }

    private void addLife() {
        int steps = x.live(7);
        add("live", steps);
        if (steps != LastPebble.NONE) {
            addBeach();
        }
    }

    /** How many bytes there are, and whether they are those of a small beach. */
    private void addTape() {
        add("feed", x.feed(0x20202020, 0x20202020, 0x20202020, 0x20202020, 0x20202020));
        add("beach", x.beach(20), x.told(0), x.told(3), x.fault(0), x.fault(1));
    }
}
