import java.util.List;
import java.util.function.ToIntFunction;

/** The edges of promises 9 to 16: the tape, TOKENS, the BEACH's text and its FAULTS, what is told of it. */
public final class EdgeTextTest {
    private static final String HEAD = "beach 9 tide 9;";

    public static void main(String[] args) {
        tapeHasNineHundredBytes();
        tapeHasTheHighestByteFirst();
        textOfNineHundredBytes();
        beachTakesTheFirstBytes();
        beachOfTooFewOrTooManyBytes();
        beachWithAFaultLeavesTheOldOne();
        beachIsThereInPlaceOfTheOldOne();
        faultIsOfTheLatestText();
        blanksAreTwo();
        tokensGoAsLongAsTheyCan();
        tokensBeginSo();
        numbersHaveOneToFourDigits();
        namesHaveOneToEightLetters();
        namesAreNoneOfTheWords();
        oneNameIsOfOneThingAlone();
        namesAreToldAhead();
        numbersOfTheHead();
        numbersOfTheParts();
        sixFinders();
        eightFinds();
        thirtyPebbles();
        duelIsToldOnce();
        partsAnyNumberOfTimes();
        theEndStandsAtTheLength();
        leastKindOfOneToken();
        firstFaultAlongTheText();
        toldAsFarAsThereIs();
        pebblesAsFarAsTheyStand();
        Check.end();
    }

    private static String padded(String text, int bytes) {
        return text + " ".repeat(bytes - text.length());
    }

    private static void faultAt(LastPebble x, String of, int fault, int place) {
        Check.due("fault(0) of " + of, x.fault(0), fault);
        Check.due("fault(1) of " + of, x.fault(1), place);
    }

    private static void tapeHasNineHundredBytes() {
        LastPebble x = new LastPebble();
        for (int fed = 20; fed <= 900; fed += 20) {
            Check.due("feed to " + fed, x.feed(-1, -1, -1, -1, -1), fed);
        }
        Check.due("feed to 920", x.feed(0, 0, 0, 0, 0), -1);
        Check.due("feed to 920", x.feed(0, 0, 0, 0, 0), -1);
        Check.due("status()", x.status(), 0);
        Check.refused(x, "beach(901)", x.beach(901), 1);
        Check.refused(x, "beach(900)", x.beach(900), 9);
        Check.due("feed onto the empty tape", x.feed(0, 0, 0, 0, 0), 20);
        LastPebble y = new LastPebble();
        Check.feed(y, padded(HEAD, 900));
        Check.due("feed to 920", y.feed(-1, -1, -1, -1, -1), -1);
        Check.told(y, "beach of what was there ahead", y.beach(900), 0);
    }

    private static void tapeHasTheHighestByteFirst() {
        for (int bytes = 16; bytes <= 17; bytes++) {
            LastPebble x = new LastPebble();
            Check.due("feed", x.feed(0x62656163, 0x6820390a, 0x74696465, 0x20373b20, 0xff000080), 20);
            Check.due("beach(" + bytes + ")", x.beach(bytes), bytes == 16 ? 0 : -1);
            Check.due("told(0)", x.told(0), bytes == 16 ? 9 : 2);
            Check.due("told(3)", x.told(3), bytes == 16 ? 7 : 60);
            faultAt(x, bytes + " bytes", bytes == 16 ? 0 : 1, bytes == 16 ? -1 : 16);
        }
    }

    /** The longest text that there can be is read to its last byte. */
    private static void textOfNineHundredBytes() {
        String text = padded(HEAD, 890) + "duel none;";
        LastPebble x = new LastPebble();
        Check.told(x, "beach of 900 bytes", Check.beach(x, text), 0);
        Check.due("told(5)", x.told(5), 0);
        Check.feed(x, text);
        Check.refused(x, "beach of 899 of them", x.beach(899), 9);
        faultAt(x, "899 bytes", 2, 899);
        Check.refused(x, "a sign at the last byte", Check.beach(x, padded(HEAD, 899) + ";"), 9);
        faultAt(x, "a sign at the last byte", 2, 899);
        Check.refused(x, "no token at the last byte", Check.beach(x, padded(HEAD, 899) + ","), 9);
        faultAt(x, "no token at the last byte", 1, 899);
        Check.refused(x, "signs alone", Check.beach(x, ";".repeat(900)), 9);
        faultAt(x, "signs alone", 2, 0);
        Check.refused(x, "blanks alone", Check.beach(x, " ".repeat(900)), 9);
        faultAt(x, "blanks alone", 2, 900);
        Check.refused(x, "one word", Check.beach(x, "b".repeat(900)), 9);
        faultAt(x, "one word", 2, 0);
        Check.refused(x, "one number", Check.beach(x, "beach " + "2".repeat(894)), 9);
        faultAt(x, "one number", 1, 6);
    }

    private static void beachTakesTheFirstBytes() {
        LastPebble x = new LastPebble();
        Check.feed(x, HEAD + "find x at 0 worth 1;");
        Check.told(x, "beach(15)", x.beach(15), 0);
        Check.due("told(2)", x.told(2), 0);
        Check.due("the tape is empty", x.feed(0, 0, 0, 0, 0), 20);
        Check.refused(x, "beach(20)", x.beach(20), 9);
        Check.due("the tape is empty", x.feed(0, 0, 0, 0, 0), 20);
        Check.refused(x, "beach(0)", x.beach(0), 9);
        faultAt(x, "no bytes", 2, 0);
        Check.due("the tape is empty", x.feed(0, 0, 0, 0, 0), 20);
    }

    private static void beachOfTooFewOrTooManyBytes() {
        for (int n : new int[] {-1, 21, Integer.MIN_VALUE, Integer.MAX_VALUE}) {
            Edge.refuses("beach(" + n + ")", Edge::full, x -> x.beach(n), 1);
            Edge.refuses("days(" + n + ")", Edge::full, x -> x.days(n), 1);
        }
        Edge.refuses("beach(1) of none", Edge::fresh, x -> x.beach(1), 1);
        Edge.refuses("beach(0) of none", Edge::fresh, x -> x.beach(0), 9);
        Edge.tells("beach(20) of twenty", Edge::full, x -> x.beach(20), 0);
    }

    private static void beachWithAFaultLeavesTheOldOne() {
        String[] texts = {"", "beach 9 tide 9", HEAD + "find x at 0 worth 1;find x", Edge.BEACH + "duel", Edge.BEACH
                + "finder f at 1 pace 1 pebbles 1;find f", Edge.BEACH + "pebble of a on x at 3;,"};
        for (String text : texts) {
            Edge.refuses("beach " + text, () -> emptied(Edge.full()), x -> Check.beach(x, text), 9);
        }
    }

    /** With nothing on the tape. */
    private static LastPebble emptied(LastPebble x) {
        x.beach(0);
        return x;
    }

    private static void beachIsThereInPlaceOfTheOldOne() {
        LastPebble x = emptied(Edge.gone());
        Check.due("KEPT ahead", x.finder(0, 4), 23);
        Check.told(x, "beach", Check.beach(x, Edge.BEACH), 3);
        int[] told = {20, 3, 3, 30, 4, 3, 0, 7, 3};
        for (int what = 0; what < told.length; what++) {
            Check.told(x, "told(" + what + ")", x.told(what), told[what]);
        }
        for (int f = 0; f < 3; f++) {
            Check.told(x, "CLOCK of " + f, x.finder(f, 3), 0);
            Check.told(x, "KEPT of " + f, x.finder(f, 4), 0);
        }
        Check.refused(x, "live(0) without DAYS", x.live(0), 6);
        Check.denied(x, "mean(0, 0, 1) without DAYS", x.mean(0, 0, 1), 6);
        Check.told(x, "beach without a thing", Check.beach(x, "beach 2 tide 1;"), 0);
        Check.refused(x, "finder(0, 0)", x.finder(0, 0), 1);
        Check.refused(x, "find(0, 0)", x.find(0, 0), 1);
        Check.told(x, "told(8)", x.told(8), 0);
    }

    private static void faultIsOfTheLatestText() {
        LastPebble x = new LastPebble();
        Check.feed(x, HEAD);
        Check.refused(x, "beach(21)", x.beach(21), 1);
        Check.refused(x, "days(-1)", x.days(-1), 1);
        for (int what = -1; what < 3; what++) {
            Check.due("fault(" + what + ") ahead of any", x.fault(what), -1);
        }
        Check.told(x, "beach(15)", x.beach(15), 0);
        faultAt(x, "a text without a fault", 0, -1);
        Check.refused(x, "beach 9 tide 0;", Check.beach(x, "beach 9 tide 0;"), 9);
        faultAt(x, "the latest", 4, 13);
        Check.refused(x, "beach(1)", x.beach(1), 1);
        x.mark();
        x.back();
        faultAt(x, "the latest", 4, 13);
        Check.told(x, "days", Check.days(x, "tide;"), 1);
        faultAt(x, "DAYS without a fault", 0, -1);
        Check.refused(x, "days", Check.days(x, "tide;  tide"), 9);
        faultAt(x, "DAYS", 2, 11);
        for (int what : new int[] {-1, 2, Integer.MIN_VALUE, Integer.MAX_VALUE}) {
            Check.due("fault(" + what + ")", x.fault(what), -1);
        }
    }

    private static boolean isLetterOrDigit(int c) {
        return c >= 'a' && c <= 'z' || c >= '0' && c <= '9';
    }

    private static void blanksAreTwo() {
        for (int c = 0; c < 256; c++) {
            String text = "beach" + (char) c + "9 tide 9;";
            if (c == 10 || c == 32) {
                Check.due("told(0) with blank " + c, Check.on(text).told(0), 9);
            } else if (!isLetterOrDigit(c)) {
                Check.beachFault(text, ";<>=".indexOf(c) < 0 ? 1 : 2, 5);
            }
        }
        Check.due("told(0)", Check.on("\n \n" + HEAD.replace(" ", "\n  \n") + "\n").told(0), 9);
        Check.due("told(0)", Check.on("beach9tide9moon9;duel none;").told(4), 9);
    }

    private static void tokensGoAsLongAsTheyCan() {
        Check.beachFault("b each 9 tide 9;", 2, 0);
        Check.beachFault("beach 4 0 tide 9;", 2, 8);
        Check.beachFault("beach 9 tide 9;findx at 0 worth 1;", 2, 15);
        Check.beachFault("beach 9 tide 9;find xat 0 worth 1;", 2, 24);
        Check.beachFault("beach 9 tide 9;find x at 00 00 worth 1;", 2, 28);
        Check.due("told(2)", Check.on("beach 9 tide 9;find x at 0worth 1;find\ny\nat\n1\nworth\n1\n;").told(2), 2);
    }

    private static void tokensBeginSo() {
        for (int c : new int[] {0, 9, 13, '!', '/', ':', '?', '@', 'A', 'Z', '[', '`', '{', 127, 128, 160, 255}) {
            Check.beachFault(HEAD + (char) c, 1, 15);
            Check.beachFault("beach 9 tide " + (char) c, 1, 13);
            Check.beachFault(HEAD + "find " + (char) c, 1, 20);
        }
        // Numbers that are what the signs' bytes are, are no signs.
        for (int sign = ';'; sign <= '>'; sign++) {
            Check.beachFault("beach 9 tide 9 " + sign, 2, 15);
        }
        for (char c : new char[] {';', '<', '>', '='}) {
            Check.beachFault(HEAD + c, 2, 15);
            Check.beachFault("beach 9 tide " + c, 2, 13);
            Check.beachFault(HEAD + "find " + c, 2, 20);
        }
        Check.due("told(2)", Check.on(HEAD + "find az at 0 worth 1;find za at 0 worth 09;").find(1, 1), 9);
    }

    private static void numbersHaveOneToFourDigits() {
        for (String nine : new String[] {"9", "09", "009", "0009"}) {
            LastPebble x = Check.on("beach " + nine + " tide " + nine + ";");
            Check.due("told(0)", x.told(0), 9);
            Check.due("told(3)", x.told(3), 9);
        }
        Check.beachFault("beach 00009 tide 9;", 1, 6);
        Check.beachFault("beach 9 tide 00009;", 1, 13);
        Check.beachFault("beach 9999 tide 9;", 4, 6);
        Check.beachFault("beach 10000 tide 9;", 1, 6);
        Check.beachFault("beach 4294967305 tide 9;", 1, 6);
        Check.due("find(0, 0)", Check.on(HEAD + "find x at 0000 worth 0000;").find(0, 0), 0);
    }

    private static void namesHaveOneToEightLetters() {
        String told = HEAD + "finder abcdefgh at 0 pace 1 pebbles 1;find z at 0 worth 1;";
        LastPebble x = Check.on(told + "finder abcdefg at 0 pace 1 pebbles 1;pebble of abcdefg on z at 1;");
        Check.due("whose", x.pebble(0, 0, 0), 1);
        Check.beachFault(HEAD + "finder abcdefghi at 0 pace 1 pebbles 1;", 2, 22);
        Check.beachFault(HEAD + "find abcdefghi at 0 worth 1;", 2, 20);
        Check.beachFault(HEAD + "find " + "z".repeat(600), 2, 20);
        Check.beachFault(told + "pebble of abcdefghi on z at 1;", 2, told.length() + 10);
        Check.beachFault(told + "pebble of abcdefgi on z at 1;", 3, told.length() + 10);
        Check.beachFault(told + "pebble of abcdefgh on zzzzzzzzz at 1;", 2, told.length() + 22);
        Check.beachFault(told + "pebble of abcdefgh on zz at 1;", 3, told.length() + 22);
        Check.beachFault(told + "find abcdefghi at 1;", 2, told.length() + 5);
    }

    private static void namesAreNoneOfTheWords() {
        String told = HEAD + "finder a at 0 pace 1 pebbles 1;find x at 0 worth 1;";
        for (String word : Edge.WORDS) {
            Check.beachFault(HEAD + "find " + word + " at 0 worth 1;", 2, 20);
            Check.beachFault(HEAD + "finder " + word + " at 0 pace 1 pebbles 1;", 2, 22);
            Check.beachFault(told + "pebble of " + word, 2, told.length() + 10);
            Check.beachFault(told + "pebble of a on " + word, 2, told.length() + 15);
            for (String near : new String[] {word + "s", word.substring(0, word.length() - 1), "s" + word}) {
                if (!Edge.WORDS.contains(near)) {
                    Check.due(near, Check.on(HEAD + "find " + near + " at 0 worth 1;").told(2), 1);
                }
            }
        }
    }

    private static void oneNameIsOfOneThingAlone() {
        String finder = "finder same at 0 pace 1 pebbles 1;";
        String find = "find same at 0 worth 1;";
        Check.beachFault(HEAD + finder + finder, 3, 15 + finder.length() + 7);
        Check.beachFault(HEAD + finder + find, 3, 15 + finder.length() + 5);
        Check.beachFault(HEAD + find + finder, 3, 15 + find.length() + 7);
        Check.beachFault(HEAD + find + find, 3, 15 + find.length() + 5);
    }

    private static void namesAreToldAhead() {
        String finder = "finder a at 0 pace 1 pebbles 1;";
        String find = "find x at 0 worth 1;";
        String pebble = "pebble of a on x at 1;";
        Check.due("told(8)", Check.on(HEAD + find + finder + pebble).told(8), 1);
        Check.beachFault(HEAD + find + pebble + finder, 3, 15 + find.length() + 10);
        Check.beachFault(HEAD + finder + pebble + find, 3, 15 + finder.length() + 15);
        Check.beachFault(HEAD + finder + find + "pebble of x on x at 1;", 3, 15 + 31 + 20 + 10);
        Check.beachFault(HEAD + finder + find + "pebble of a on a at 1;", 3, 15 + 31 + 20 + 15);
    }

    /** From least to most it may be, on both sides of these it can't be. */
    private static void number(String ahead, int least, int most, String behind, ToIntFunction<LastPebble> told) {
        Check.due(ahead + least + behind, told.applyAsInt(Check.on(ahead + least + behind)), least);
        Check.due(ahead + most + behind, told.applyAsInt(Check.on(ahead + most + behind)), most);
        if (least > 0) {
            Check.beachFault(ahead + (least - 1) + behind, 4, ahead.length());
        }
        Check.beachFault(ahead + (most + 1) + behind, 4, ahead.length());
        Check.beachFault(ahead + 9999 + behind, 4, ahead.length());
    }

    private static void numbersOfTheHead() {
        number("beach ", 2, 40, " tide 9;", x -> x.told(0));
        number("beach 9 tide ", 1, 240, ";", x -> x.told(3));
        number("beach 9 tide 9 moon ", 0, 60, ";", x -> x.told(4));
        Check.due("MOON without", Check.on(HEAD).told(4), 0);
    }

    private static void numbersOfTheParts() {
        for (int cells : new int[] {2, 9, 40}) {
            String head = "beach " + cells + " tide 9;";
            number(head + "finder a at ", 0, cells - 1, " pace 1 pebbles 1;", x -> x.finder(0, 0));
            number(head + "find x at ", 0, cells - 1, " worth 1;", x -> x.find(0, 0));
        }
        number(HEAD + "finder a at 0 pace ", 1, 9, " pebbles 1;", x -> x.finder(0, 1));
        number(HEAD + "finder a at 0 pace 1 pebbles ", 0, 20, ";", x -> x.finder(0, 2));
        number(HEAD + "find x at 0 worth ", 0, 999, ";", x -> x.find(0, 1));
        for (int tide : new int[] {1, 9, 240}) {
            number("beach 9 tide " + tide + " moon 60;finder a at 0 pace 1 pebbles 0;find x at 0 worth 1;"
                    + "pebble of a on x at ", 0, tide, ";", x -> x.pebble(0, 0, 1));
        }
    }

    private static String lettered(String ahead, String behind, int many) {
        StringBuilder text = new StringBuilder();
        for (int i = 0; i < many; i++) {
            text.append(ahead).append((char) ('a' + i)).append(behind);
        }
        return text.toString();
    }

    private static void sixFinders() {
        String six = HEAD + lettered("finder ", " at 8 pace 9 pebbles 20;", 6);
        Check.due("told(1)", Check.on(six).told(1), 6);
        Check.due("finder(5, 2)", Check.on(six).finder(5, 2), 20);
        Edge.refuses("finder(6, 0)", Edge.on(six), x -> x.finder(6, 0), 1);
        Check.beachFault(six + "finder g at 8 pace 9 pebbles 20;", 6, six.length());
        Check.beachFault(six + "finder a", 6, six.length());
        Check.beachFault(six + " finder", 6, six.length() + 1);
        Check.due("finds behind six", Check.on(six + "find x at 0 worth 1;duel last;").told(2), 1);
    }

    private static void eightFinds() {
        String eight = HEAD + lettered("find ", " at 8 worth 999;", 8);
        Check.due("told(2)", Check.on(eight).told(2), 8);
        Check.due("told(7)", Check.on(eight).told(7), 255);
        Check.due("find(7, 1)", Check.on(eight).find(7, 1), 999);
        Edge.refuses("find(8, 0)", Edge.on(eight), x -> x.find(8, 0), 1);
        Check.beachFault(eight + "find i at 8 worth 999;", 6, eight.length());
        Check.beachFault(eight + "find a", 6, eight.length());
        Check.due("finders behind eight", Check.on(eight + "finder x at 0 pace 1 pebbles 0;").told(1), 1);
    }

    private static void thirtyPebbles() {
        String ahead = HEAD + "finder a at 0 pace 1 pebbles 0;find x at 0 worth 1;find y at 1 worth 1;";
        String thirty = ahead + "pebble of a on x at 9;".repeat(15) + "pebble of a on y at 0;".repeat(15);
        LastPebble x = Check.on(thirty);
        Check.due("told(8)", x.told(8), 30);
        Check.due("find(0, 2)", x.find(0, 2), 15);
        Check.due("pebbles that a has", x.finder(0, 2), 0);
        Check.beachFault(thirty + "pebble of a on y at 0;", 6, thirty.length());
        Check.beachFault(thirty + "pebble pebble", 6, thirty.length());
        Check.due("duel behind thirty", Check.on(thirty + "duel none;").told(5), 0);
    }

    private static void duelIsToldOnce() {
        Check.due("DUEL without", Check.on(HEAD).told(5), 1);
        String[] whos = {"none", "first", "last", "share"};
        for (int i = 0; i < 4; i++) {
            String one = HEAD + "duel " + whos[i] + ";";
            Check.due(one, Check.on(one).told(5), i);
            Check.beachFault(one + "duel " + whos[i] + ";", 5, one.length());
            Check.beachFault(one + "duel 7", 5, one.length());
            Check.beachFault(HEAD + "find x at 0 worth 1;duel " + whos[i] + "; duel", 5, 15 + 20 + one.length() - 14);
        }
        for (String word : Edge.WORDS) {
            if (!List.of(whos).contains(word)) {
                Check.beachFault(HEAD + "duel " + word + ";", 2, 20);
            }
        }
        Check.beachFault(HEAD + "duel x;", 2, 20);
        Check.beachFault(HEAD + "duel;", 2, 19);
    }

    private static void partsAnyNumberOfTimes() {
        Check.due("told(1) without parts", Check.on(HEAD).told(1), 0);
        Check.beachFault(HEAD + "moon 3;", 2, 15);
        Check.beachFault(HEAD + HEAD, 2, 15);
        Check.beachFault(HEAD + ";", 2, 15);
        for (String word : Edge.WORDS) {
            if (!List.of("finder", "find", "pebble", "duel").contains(word)) {
                Check.beachFault(HEAD + word, 2, 15);
            }
        }
    }

    /** A text that ends behind any of its TOKENS but a PART's last one ends too soon. */
    private static void theEndStandsAtTheLength() {
        String[] tokens = ("beach 9 tide 9 moon 3 ; finder a at 0 pace 1 pebbles 2 ; find x at 3 worth 4 ; "
                + "pebble of a on x at 5 ; duel share ;").split(" ");
        String text = "";
        for (String token : tokens) {
            if (text.endsWith("; ")) {
                Check.due("told(0) of " + text, Check.on(text).told(0), 9);
            } else {
                Check.beachFault(text, 2, text.length());
                Check.beachFault(text + "\n\n", 2, text.length() + 2);
                Check.beachFault(text.trim(), 2, text.trim().length());
            }
            text = text + token + " ";
        }
        Check.due("told(5) of " + text, Check.on(text.trim()).told(5), 3);
    }

    private static void leastKindOfOneToken() {
        // 1 ahead of 2, and of 4
        Check.beachFault("12345", 1, 0);
        Check.beachFault("beach 9 12345", 1, 8);
        Check.beachFault("beach 99999", 1, 6);
        Check.beachFault(HEAD + "find 12345", 1, 20);
        // 2 ahead of 3: what is no NAME, though it is told nowhere
        Check.beachFault(HEAD + "finder a at 0 pace 1 pebbles 1;pebble of 1234", 2, 56);
        Check.beachFault(HEAD + "finder a at 0 pace 1 pebbles 1;pebble of tide", 2, 56);
        Check.beachFault(HEAD + "finder a at 0 pace 1 pebbles 1;pebble of aaaaaaaaa", 2, 56);
        // 2 ahead of 4: a NUMBER where none may stand
        Check.beachFault("9999", 2, 0);
        Check.beachFault("beach 9 9999", 2, 8);
    }

    private static void firstFaultAlongTheText() {
        Check.beachFault("beach 41 tide 241;?", 4, 6);
        Check.beachFault("beach 4 tide 241;?", 4, 13);
        Check.beachFault("beach 4 tide 240;?", 1, 17);
        Check.beachFault("beach 4 tide tide 99999", 2, 13);
        Check.beachFault("beach 4 tide 40;find x at 4 worth 1000;find x", 4, 26);
        Check.beachFault("beach 4 tide 40;find x at 3 worth 1000;find x", 4, 34);
        Check.beachFault("beach 4 tide 40;find x at 3 worth 999;find x at 9", 3, 43);
        Check.beachFault("beach 4 tide 40;duel all;duel none;", 2, 21);
        Check.beachFault("beach 4 tide 40;duel none;duel all;", 5, 26);
    }

    private static void toldAsFarAsThereIs() {
        Edge.between("told(n)", Edge::full, (x, n) -> x.told(n), 0, 8);
        Edge.between("finder(n, 0)", Edge::full, (x, n) -> x.finder(n, 0), 0, 2);
        Edge.between("finder(0, n)", Edge::full, (x, n) -> x.finder(0, n), 0, 4);
        Edge.between("find(n, 0)", Edge::full, (x, n) -> x.find(n, 0), 0, 2);
        Edge.between("find(0, n)", Edge::full, (x, n) -> x.find(0, n), 0, 2);
        for (int what = 0; what < 9; what++) {
            int k = what;
            Edge.tells("told(" + k + ") of a new object", Edge::fresh, x -> x.told(k),
                    new int[] {2, 0, 0, 60, 0, 1, 0, 0, 0}[k]);
        }
        Edge.refuses("finder(0, 0) without finders", Edge::fresh, x -> x.finder(0, 0), 1);
        Edge.refuses("find(0, 0) without finds", Edge::fresh, x -> x.find(0, 0), 1);
        Edge.refuses("pebble(0, 0, 0) without finds", Edge::fresh, x -> x.pebble(0, 0, 0), 1);
        LastPebble x = Edge.gone();
        int[] told = {20, 3, 3, 26, 4, 3, 1, 0, 0};
        for (int what = 0; what < told.length; what++) {
            Check.told(x, "told(" + what + ") behind the tide", x.told(what), told[what]);
        }
        Check.told(x, "find(2, 1) behind the tide", x.find(2, 1), 20);
        Check.told(x, "find(2, 2) behind the tide", x.find(2, 2), 0);
    }

    private static void pebblesAsFarAsTheyStand() {
        Edge.outside("pebble(n, 0, 0)", Edge::full, (x, n) -> x.pebble(n, 0, 0), 0, 2);
        Edge.between("pebble(1, 0, n)", Edge::full, (x, n) -> x.pebble(1, 0, n), 0, 1);
        for (int k : new int[] {-1, 2, Integer.MIN_VALUE, Integer.MAX_VALUE}) {
            Edge.refuses("pebble(1, " + k + ", 0)", Edge::full, x -> x.pebble(1, k, 0), 6);
            Edge.refuses("pebble(1, " + k + ", 2)", Edge::full, x -> x.pebble(1, k, 2), 1);
            Edge.refuses("pebble(3, " + k + ", 0)", Edge::full, x -> x.pebble(3, k, 0), 1);
        }
        Edge.tells("pebble(1, 0, 0)", Edge::full, x -> x.pebble(1, 0, 0), 1);
        Edge.tells("pebble(1, 1, 0)", Edge::full, x -> x.pebble(1, 1, 0), 0);
        Edge.tells("pebble(2, 0, 1)", Edge::full, x -> x.pebble(2, 0, 1), 28);
        Edge.refuses("pebble(0, 0, 0) without pebbles", Edge::full, x -> x.pebble(0, 0, 0), 6);
        Edge.refuses("pebble(1, 0, 0) of a FIND that is GONE", Edge::gone, x -> x.pebble(1, 0, 0), 6);
    }
}
