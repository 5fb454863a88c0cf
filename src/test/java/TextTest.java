/** Promises 9 to 16: the tape, beaches and their faults, what is told of them. */
public final class TextTest {
    private static final String HEAD = "beach 9 tide 9;";

    public static void main(String[] args) {
        feeding();
        numbersOfBytes();
        taking();
        blanksAndTokens();
        headFaults();
        finderFaults();
        findFaults();
        pebbleFaults();
        duelFaults();
        names();
        tokenFaults();
        pebblesStand();
        told();
        cutTexts();
        oneBehindAnother();
        Check.end();
    }

    private static void feeding() {
        LastPebble x = new LastPebble();
        for (int i = 1; i <= 45; i++) {
            Check.due("feed " + i, x.feed(0x20202020, 0x20202020, 0x20202020, 0x20202020, 0x20202020), 20 * i);
        }
        Check.due("feed 46", x.feed(0, 0, 0, 0, 0), -1);
        Check.due("feed 47", x.feed(0, 0, 0, 0, 0), -1);
        Check.refused(x, "beach(901)", x.beach(901), 1);
        Check.refused(x, "beach(900)", x.beach(900), 9);
        Check.due("fault(0)", x.fault(0), 2);
        Check.due("fault(1)", x.fault(1), 900);
        Check.due("feed", x.feed(-1, -1, -1, -1, -1), 20);
        Check.refused(x, "beach(20)", x.beach(20), 9);
        Check.due("fault(0)", x.fault(0), 1);
        Check.due("fault(1)", x.fault(1), 0);
    }

    private static void numbersOfBytes() {
        LastPebble x = new LastPebble();
        Check.refused(x, "beach(1)", x.beach(1), 1);
        Check.feed(x, HEAD);
        Check.refused(x, "beach(-1)", x.beach(-1), 1);
        Check.refused(x, "beach(21)", x.beach(21), 1);
        Check.due("fault(0)", x.fault(0), -1);
        Check.due("feed", x.feed(0, 0, 0, 0, 0), 40);
        Check.told(x, "beach(15)", x.beach(15), 0);
        Check.due("told(0)", x.told(0), 9);
        Check.refused(x, "beach(0)", x.beach(0), 9);
        Check.due("fault(0)", x.fault(0), 2);
        Check.due("fault(1)", x.fault(1), 0);
        Check.due("told(0)", x.told(0), 9);
        Check.due("feed", x.feed(0, 0, 0, 0, 0), 20);
        Check.refused(x, "days(21)", x.days(21), 1);
        Check.refused(x, "days(-1)", x.days(-1), 1);
        Check.due("fault(0)", x.fault(0), 2);
        LastPebble y = new LastPebble();
        for (int i = 0; i < 16; i++) {
            y.feed(0x20202020, 0x20202020, 0x20202020, 0x20202020, 0x20202020);
        }
        Check.refused(y, "days(301)", y.days(301), 1);
        Check.told(y, "days(300)", y.days(300), 0);
        Check.due("fault(0)", y.fault(0), 0);
        Check.due("fault(1)", y.fault(1), -1);
        Check.due("fault(2)", y.fault(2), -1);
        Check.due("fault(-1)", y.fault(-1), -1);
        Check.due("feed", y.feed(0, 0, 0, 0, 0), 20);
    }

    private static void taking() {
        LastPebble x = Check.on("beach 40 tide 240 moon 60; duel last; find gold at 39 worth 999;"
                + "finder abcdefgh at 39 pace 9 pebbles 20; pebble of abcdefgh on gold at 240; finder z at 0 pace 1"
                + " pebbles 0; find dust at 0 worth 0;");
        int[] due = {40, 2, 2, 240, 60, 2, 0, 3, 1};
        for (int what = 0; what < due.length; what++) {
            Check.told(x, "told(" + what + ")", x.told(what), due[what]);
        }
        int[][] finders = {{39, 9, 20, 0, 0}, {0, 1, 0, 0, 0}};
        for (int f = 0; f < 2; f++) {
            for (int what = 0; what < 5; what++) {
                Check.told(x, "finder(" + f + ", " + what + ")", x.finder(f, what), finders[f][what]);
            }
        }
        int[][] finds = {{39, 999, 1}, {0, 0, 0}};
        for (int f = 0; f < 2; f++) {
            for (int what = 0; what < 3; what++) {
                Check.told(x, "find(" + f + ", " + what + ")", x.find(f, what), finds[f][what]);
            }
        }
        String[] whos = {"none", "first", "last", "share"};
        for (int i = 0; i < 4; i++) {
            Check.due("told(5) of " + whos[i], Check.on(HEAD + "duel " + whos[i] + ";").told(5), i);
        }
        Check.due("told(5)", Check.on(HEAD).told(5), 1);
        x.go(0, 38);
        x.tide();
        Check.told(x, "beach", Check.beach(x, HEAD + "finder a at 3 pace 1 pebbles 1; find b at 3 worth 5;"), 1);
        Check.due("told(6)", x.told(6), 0);
        Check.due("told(7)", x.told(7), 1);
        Check.due("told(8)", x.told(8), 0);
        Check.due("finder(0, 3)", x.finder(0, 3), 0);
        Check.due("finder(0, 4)", x.finder(0, 4), 0);
        Check.refused(x, "finder(1, 0)", x.finder(1, 0), 1);
    }

    private static void blanksAndTokens() {
        LastPebble x = Check.on("\n\n beach9tide09;finder a at\n0008pace 1pebbles 2;find findx at 3worth 5;\n");
        Check.due("told(0)", x.told(0), 9);
        Check.due("finder(0, 0)", x.finder(0, 0), 8);
        Check.due("told(2)", x.told(2), 1);
        Check.beachFault("beach\t9", 1, 5);
        Check.beachFault("beach 9\r\ntide 9;", 1, 7);
        Check.beachFault("beachx 9 tide 9;", 2, 0);
        Check.beachFault("Beach 9 tide 9;", 1, 0);
        Check.beachFault("beach 9 tide 9 ;,", 1, 16);
    }

    private static void cutTexts() {
        LastPebble x = new LastPebble();
        Check.feed(x, "beach 9 tide 99;");
        Check.refused(x, "beach(14)", x.beach(14), 9);
        Check.due("fault(0)", x.fault(0), 2);
        Check.due("fault(1)", x.fault(1), 14);
        Check.feed(x, "beach 9 tide 9; finders");
        Check.refused(x, "beach(22)", x.beach(22), 9);
        Check.due("fault(0)", x.fault(0), 2);
        Check.due("fault(1)", x.fault(1), 22);
        Check.feed(x, "beach 9 tide 9; ;;;;");
        Check.told(x, "beach(16)", x.beach(16), 0);
        Check.due("fault(0)", x.fault(0), 0);
        Check.due("fault(1)", x.fault(1), -1);
        for (int i = 0; i < 45; i++) {
            x.feed(0x3b3b3b3b, 0x3b3b3b3b, 0x3b3b3b3b, 0x3b3b3b3b, 0x3b3b3b3b);
        }
        Check.refused(x, "beach(900)", x.beach(900), 9);
        Check.due("fault(0)", x.fault(0), 2);
        Check.due("fault(1)", x.fault(1), 0);
    }

    /** What stood in a larger beach must not be met in a smaller one behind it. */
    private static void oneBehindAnother() {
        StringBuilder large = new StringBuilder("beach 40 tide 240 moon 9;duel none;");
        for (char c = 'a'; c < 'g'; c++) {
            large.append("finder ").append(c).append(" at 1 pace 1 pebbles 9;");
        }
        for (char c = 'p'; c < 'x'; c++) {
            large.append("find ").append(c).append(" at 1 worth 9;pebble of a on ").append(c).append(" at 9;");
        }
        LastPebble x = Check.on(large.toString());
        for (int i = 0; i < 2; i++) {
            x.pass(0, 100);
            x.set(0, 0);
            x.tide();
            x.dawn();
            x.pass(0, 100);
            x.pass(1, 100);
            x.go(0, 1);
            x.set(0, 0);
            x.set(1, 0);
            Check.told(x, "beach", Check.beach(x, large.toString()), 8);
        }
        x.pass(0, 100);
        x.set(0, 0);
        Check.told(x, "beach", Check.beach(x, "beach 3 tide 9;finder u at 2 pace 1 pebbles 1;find v at 1 worth 2;"), 1);
        int[] told = {3, 1, 1, 9, 0, 1, 0, 1, 0};
        for (int what = 0; what < told.length; what++) {
            Check.told(x, "told(" + what + ")", x.told(what), told[what]);
        }
        int[] finder = {2, 1, 1, 0, 0};
        for (int what = 0; what < finder.length; what++) {
            Check.told(x, "finder(0, " + what + ")", x.finder(0, what), finder[what]);
        }
        int[] sets = {x.duels(), x.needs(0), x.rivals(0, 1), x.safe(0), x.seen(0, 40), x.alone(), x.open(), x.boys(0),
            x.crowd(40), x.strewn(0), x.best(0), x.gull(0, 1), x.wave(40), x.leads(0), x.threat(0), x.latest()};
        int[] due = {0, 1, -1, 0, 1, 0, 2, 1, 1, 0, 2, -1, 0, 0, 1, -1};
        for (int i = 0; i < sets.length; i++) {
            Check.due("answer " + i + " on the smaller beach", sets[i], due[i]);
        }
        Check.told(x, "tide()", x.tide(), 1);
        Check.told(x, "dawn()", x.dawn(), 1);
        Check.told(x, "told(7)", x.told(7), 1);
        Check.told(x, "beach", Check.beach(x, "beach 2 tide 3;"), 0);
        int[] last = {2, 0, 0, 3, 0, 1, 0, 0, 0};
        for (int what = 0; what < last.length; what++) {
            Check.told(x, "told(" + what + ")", x.told(what), last[what]);
        }
    }

    private static void headFaults() {
        Check.beachFault("beach 9 tide 9<", 2, 14);
        Check.beachFault("", 2, 0);
        Check.beachFault(" \n ", 2, 3);
        Check.beachFault("beach", 2, 5);
        Check.beachFault("beach ", 2, 6);
        Check.beachFault("beach ;", 2, 6);
        Check.beachFault("beach x", 2, 6);
        Check.beachFault("beach 1", 4, 6);
        Check.beachFault("beach 41", 4, 6);
        Check.beachFault("beach 12345 tide", 1, 6);
        Check.beachFault("beach 2 tide 0;", 4, 13);
        Check.beachFault("beach 2 tide 241;", 4, 13);
        Check.beachFault("beach 2 tide 2 2;", 2, 15);
        Check.beachFault("beach 2 tide 2 moon 61;", 4, 20);
        Check.beachFault("beach 2 tide 2 moon;", 2, 19);
        Check.beachFault("beach 2 tide 2 moon 3 moon 3;", 2, 22);
        Check.beachFault("beach 2 tide 2 moon 60", 2, 22);
        Check.beachFault("moon", 2, 0);
        Check.due("told(0)", Check.on("beach 40 tide 240 moon 0;").told(0), 40);
        Check.due("told(0)", Check.on("beach 2 tide 1 moon 60;").told(0), 2);
    }

    private static void finderFaults() {
        String part = HEAD + "finder ";
        int at = part.length();
        Check.beachFault(part, 2, at);
        Check.beachFault(part + "9", 2, at);
        Check.beachFault(part + ";", 2, at);
        Check.beachFault(part + "abcdefghi", 2, at);
        Check.beachFault(part + "stop", 2, at);
        Check.beachFault(part + "a 3", 2, at + 2);
        Check.beachFault(part + "a at 9", 4, at + 5);
        Check.beachFault(part + "a at b", 2, at + 5);
        Check.beachFault(part + "a at 8 pace 0", 4, at + 12);
        Check.beachFault(part + "a at 8 pace 10", 4, at + 12);
        Check.beachFault(part + "a at 8 pace 9 pebbles 21", 4, at + 22);
        Check.beachFault(part + "a at 8 pace 9 pebbles 20", 2, at + 24);
        Check.beachFault(part + "a at 8 pace 9 pebbles 20,", 1, at + 24);
        Check.beachFault(part + "a at 8 pace 9 pebbles 20 finder", 2, at + 25);
        StringBuilder six = new StringBuilder(HEAD);
        for (char c = 'a'; c < 'g'; c++) {
            six.append("finder ").append(c).append(" at 0 pace 1 pebbles 0;");
        }
        Check.due("told(1)", Check.on(six.toString()).told(1), 6);
        Check.beachFault(six + "finder", 6, six.length());
        Check.beachFault(six + "finder a", 6, six.length());
    }

    private static void findFaults() {
        String part = HEAD + "find ";
        int at = part.length();
        Check.beachFault(part + "duel at", 2, at);
        Check.beachFault(part + "a at 9", 4, at + 5);
        Check.beachFault(part + "a at 0 pace", 2, at + 7);
        Check.beachFault(part + "a at 0 worth 1000;", 4, at + 13);
        Check.beachFault(part + "a at 0 worth 99999;", 1, at + 13);
        StringBuilder eight = new StringBuilder(HEAD);
        for (char c = 'a'; c < 'i'; c++) {
            eight.append("find ").append(c).append(" at 0 worth 1;");
        }
        Check.due("told(2)", Check.on(eight.toString()).told(2), 8);
        Check.beachFault(eight + "find", 6, eight.length());
    }

    private static void pebbleFaults() {
        String ahead = HEAD + "finder a at 0 pace 1 pebbles 0;find x at 0 worth 1;";
        String part = ahead + "pebble ";
        int at = part.length();
        Check.beachFault(part + "on", 2, at);
        Check.beachFault(part + "of b", 3, at + 3);
        Check.beachFault(part + "of x", 3, at + 3);
        Check.beachFault(part + "of at", 2, at + 3);
        Check.beachFault(part + "of abcdefghi", 2, at + 3);
        Check.beachFault(part + "of a of", 2, at + 5);
        Check.beachFault(part + "of a on y", 3, at + 8);
        Check.beachFault(part + "of a on a", 3, at + 8);
        Check.beachFault(part + "of a on x at 10;", 4, at + 13);
        Check.beachFault(part + "of a on x at 9", 2, at + 14);
        StringBuilder many = new StringBuilder(ahead);
        for (int i = 0; i < 30; i++) {
            many.append("pebble of a on x at 9;");
        }
        Check.due("told(8)", Check.on(many.toString()).told(8), 30);
        Check.beachFault(many + "pebble", 6, many.length());
    }

    private static void duelFaults() {
        Check.beachFault(HEAD + "duel", 2, 19);
        Check.beachFault(HEAD + "duel all;", 2, 20);
        Check.beachFault(HEAD + "duel stop;", 2, 20);
        Check.beachFault(HEAD + "duel on;", 2, 20);
        Check.beachFault(HEAD + "duel 1;", 2, 20);
        Check.beachFault(HEAD + "duel first;duel first;", 5, 26);
        Check.beachFault(HEAD + "duel none;find x at 0 worth 1;duel", 5, 45);
    }

    private static void names() {
        String[] words = {"beach", "tide", "moon", "finder", "at", "pace", "pebbles", "find", "worth", "pebble", "of",
            "on", "duel", "none", "first", "last", "share", "to", "go", "set", "wait", "lift", "gull", "wave", "when",
            "leads", "free", "loop", "end", "stop"};
        for (String word : words) {
            Check.beachFault(HEAD + "find " + word + " at 0 worth 1;", 2, 20);
            Check.beachFault(HEAD + "finder " + word + " at 0 pace 1 pebbles 1;", 2, 22);
        }
        Check.beachFault(HEAD + "find a at 0 worth 1;find a", 3, 40);
        Check.beachFault(HEAD + "find a at 0 worth 1;finder a", 3, 42);
        Check.beachFault(HEAD + "finder a at 0 pace 1 pebbles 1;finder a", 3, 53);
        Check.beachFault(HEAD + "finder a at 0 pace 1 pebbles 1;find a", 3, 51);
        LastPebble x = Check.on(HEAD + "find a at 0 worth 1;find aa at 0 worth 1;find aaaaaaaa at 0 worth 1;"
                + "find ends at 0 worth 1;find zzzzzzzz at 1 worth 1;find beac at 1 worth 1;");
        Check.due("told(2)", x.told(2), 6);
    }

    private static void tokenFaults() {
        for (int c = 0; c < 256; c++) {
            boolean known = c >= 'a' && c <= 'z' || c >= '0' && c <= '9' || c == ';' || c == '<' || c == '>'
                    || c == '=' || c == ' ' || c == '\n';
            boolean blank = c == ' ' || c == '\n';
            String text = HEAD + (char) c;
            if (blank) {
                Check.due("told(0) of sign " + c, Check.on(text).told(0), 9);
            } else {
                Check.beachFault(text, known ? 2 : 1, HEAD.length());
            }
        }
        Check.beachFault(HEAD + "finder a at 12345", 1, 27);
        Check.beachFault(HEAD + "finder 12345", 1, 22);
        Check.beachFault(HEAD + "finder 1234", 2, 22);
        Check.beachFault("beach 9 tide x 99999 ?", 2, 13);
    }

    private static void pebblesStand() {
        LastPebble x = Check.on("beach 9 tide 9;finder a at 0 pace 1 pebbles 5;finder b at 0 pace 1 pebbles 5;"
                + "find x at 0 worth 1;find y at 0 worth 1;pebble of a on x at 5;pebble of b on x at 3;"
                + "pebble of b on x at 5;pebble of a on x at 0;pebble of a on x at 3;pebble of a on y at 9;");
        int[] owners = {0, 1, 0, 0, 1};
        int[] minutes = {0, 3, 3, 5, 5};
        for (int k = 0; k < 5; k++) {
            Check.told(x, "pebble(0, " + k + ", 0)", x.pebble(0, k, 0), owners[k]);
            Check.told(x, "pebble(0, " + k + ", 1)", x.pebble(0, k, 1), minutes[k]);
        }
        Check.refused(x, "pebble(0, 5, 0)", x.pebble(0, 5, 0), 6);
        Check.refused(x, "pebble(0, -1, 0)", x.pebble(0, -1, 0), 6);
        Check.refused(x, "pebble(0, 0, 2)", x.pebble(0, 0, 2), 1);
        Check.refused(x, "pebble(0, 9, -1)", x.pebble(0, 9, -1), 1);
        Check.refused(x, "pebble(2, 0, 0)", x.pebble(2, 0, 0), 1);
        Check.refused(x, "pebble(-1, 0, 0)", x.pebble(-1, 0, 0), 1);
    }

    private static void told() {
        LastPebble x = Check.on(HEAD + "finder a at 0 pace 1 pebbles 5;find x at 0 worth 1;");
        Check.refused(x, "told(-1)", x.told(-1), 1);
        Check.refused(x, "told(9)", x.told(9), 1);
        Check.refused(x, "finder(0, -1)", x.finder(0, -1), 1);
        Check.refused(x, "finder(0, 5)", x.finder(0, 5), 1);
        Check.refused(x, "finder(-1, 0)", x.finder(-1, 0), 1);
        Check.refused(x, "finder(1, 0)", x.finder(1, 0), 1);
        Check.refused(x, "find(0, -1)", x.find(0, -1), 1);
        Check.refused(x, "find(0, 3)", x.find(0, 3), 1);
        Check.refused(x, "find(-1, 0)", x.find(-1, 0), 1);
        Check.refused(x, "find(1, 0)", x.find(1, 0), 1);
    }
}
