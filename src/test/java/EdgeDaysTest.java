import java.util.List;

/** The edges of promise 11: the DAYS' text and its FAULTS. */
public final class EdgeDaysTest {
    private static final String FOURTH = "loop 1;loop 1;loop 1;";

    public static void main(String[] args) {
        daysOfTooFewOrTooManyBytes();
        textOfThreeHundredBytes();
        daysTakeTheFirstBytes();
        daysWithAFaultLeaveTheOldOnes();
        daysInPlaceOfTheOldOnes();
        daysWithoutSteps();
        numbersOfTheSteps();
        stepsBeginSo();
        testsBeginSo();
        comparesAreThree();
        namesMustBeThere();
        namesAreNoneOfTheWords();
        thirtySteps();
        endIsNoStep();
        whenAndLoopWithinThree();
        endWithoutABeginning();
        textsEndAheadOfAnEnd();
        theEndStandsAtTheLength();
        leastKindOfOneToken();
        firstFaultAlongTheText();
        Check.end();
    }

    private static void taken(String text, int steps) {
        LastPebble x = Check.on(Edge.BEACH);
        Check.told(x, "days " + text, Check.days(x, text), steps);
        Check.due("fault(0) of " + text, x.fault(0), 0);
        Check.due("fault(1) of " + text, x.fault(1), -1);
        Check.due("the tape behind " + text, x.feed(0, 0, 0, 0, 0), 20);
    }

    private static void faulty(String text, int fault, int place) {
        LastPebble x = Check.on(Edge.BEACH);
        Check.daysFault(x, text, fault, place);
        Check.due("the tape behind " + text, x.feed(0, 0, 0, 0, 0), 20);
        Check.refused(x, "live(0) behind " + text, x.live(0), 6);
    }

    private static LastPebble blanks(int bytes) {
        LastPebble x = Check.on(Edge.BEACH);
        Check.feed(x, " ".repeat(bytes));
        return x;
    }

    private static void daysOfTooFewOrTooManyBytes() {
        Edge.between("days(n) of 320", () -> blanks(320), (x, n) -> x.days(n), 0, 300);
        Edge.between("days(n) of 900", () -> blanks(900), (x, n) -> x.days(n), 0, 300);
        Edge.between("days(n) of 300", () -> blanks(300), (x, n) -> x.days(n), 0, 300);
        Edge.between("days(n) of 280", () -> blanks(280), (x, n) -> x.days(n), 0, 280);
        Edge.between("days(n) of none", () -> blanks(0), (x, n) -> x.days(n), 0, 0);
        // A number that can't be goes ahead of a FAULT.
        Edge.refuses("days(301)", () -> {
            LastPebble x = Check.on(Edge.BEACH);
            Check.feed(x, ",".repeat(320));
            return x;
        }, x -> x.days(301), 1);
    }

    private static void textOfThreeHundredBytes() {
        taken("tide;" + " ".repeat(290) + "stop;", 2);
        taken(" ".repeat(299) + "\n", 0);
        faulty("tide;" + " ".repeat(294) + ";", 2, 299);
        faulty("tide;" + " ".repeat(294) + ",", 1, 299);
        faulty("tide;" + " ".repeat(291) + "stop", 2, 300);
        faulty(";".repeat(300), 2, 0);
        faulty("wait a " + "1".repeat(293), 1, 7);
    }

    private static void daysTakeTheFirstBytes() {
        LastPebble x = Check.on(Edge.BEACH);
        Check.feed(x, "tide;stop;wave 3;gull 9;");
        Check.told(x, "days(10)", x.days(10), 2);
        Check.due("the tape is empty", x.feed(0x3b202020, 0, 0, 0, 0), 20);
        Check.refused(x, "days(1)", x.days(1), 9);
        Check.due("fault(0)", x.fault(0), 2);
        Check.due("the tape is empty", x.feed(0, 0, 0, 0, 0), 20);
        Check.told(x, "live(0)", x.live(0), 2);
    }

    private static LastPebble emptied() {
        LastPebble x = Edge.full();
        x.beach(0);
        return x;
    }

    private static void daysWithAFaultLeaveTheOldOnes() {
        String[] texts = {";", "tide", "tide;wave 41;", "tide;".repeat(30) + "tide;", "loop 9;set a on x;",
            "when leads a < 3;wait b 9;end;end;", FOURTH + "loop"};
        for (String text : texts) {
            Edge.refuses("days " + text, EdgeDaysTest::emptied, x -> Check.days(x, text), 9);
        }
    }

    private static void daysInPlaceOfTheOldOnes() {
        LastPebble x = emptied();
        Check.told(x, "live(0)", x.live(0), 4);
        Check.told(x, "days", Check.days(x, "tide;wave 0;"), 2);
        Check.due("the DAY is as it was", x.told(6), 0);
        Check.told(x, "live(0)", x.live(0), 2);
        Check.due("the DAY", x.told(6), 1);
        Check.told(x, "days", Check.days(x, "wait a 1;".repeat(30)), 30);
        Check.told(x, "live(0)", x.live(0), 26 + 4);
        Check.due("CLOCK", x.finder(0, 3), 26);
        Check.told(x, "lived(0)", x.lived(0), 4);
    }

    /** A text without STEPS is DAYS, too, as soon as it is taken. */
    private static void daysWithoutSteps() {
        LastPebble x = Check.on(Edge.BEACH);
        Check.refused(x, "live(0) ahead of any", x.live(0), 6);
        Check.told(x, "days(0)", x.days(0), 0);
        Check.told(x, "live(0)", x.live(0), 0);
        Check.told(x, "lived(4)", x.lived(4), 0);
        Check.granted(x, "mean(0, 0, 1)", x.mean(0, 0, 1));
        LastPebble y = new LastPebble();
        Check.told(y, "days of an empty beach", Check.days(y, "tide;wave 40;gull 16;stop;loop 2;end;"), 5);
        Check.daysFault(y, "go a to 1;", 3, 3);
        Check.daysFault(y, "when free x;end;", 3, 10);
    }

    /** From least to most it may be, on both sides of these it can't be. */
    private static void number(String ahead, int least, int most, String behind) {
        taken(ahead + least + behind, 1);
        taken(ahead + most + behind, 1);
        if (least > 0) {
            faulty(ahead + (least - 1) + behind, 4, ahead.length());
        }
        faulty(ahead + (most + 1) + behind, 4, ahead.length());
        faulty(ahead + 9999 + behind, 4, ahead.length());
        faulty(ahead + 10000 + behind, 1, ahead.length());
        faulty(ahead + "a" + behind, 2, ahead.length());
    }

    private static void numbersOfTheSteps() {
        number("go a to ", 0, 19, ";");
        number("wait a ", 1, 240, ";");
        number("gull ", 0, 16, ";");
        number("wave ", 0, 40, ";");
        number("loop ", 1, 99, "; end;");
        taken("when leads a < 0; end;", 1);
        taken("when leads a < 9999; end;", 1);
        faulty("when leads a < 10000; end;", 1, 15);
        LastPebble x = new LastPebble();
        Check.beach(x, "beach 2 tide 1;finder a at 0 pace 1 pebbles 1;");
        Check.told(x, "go to the last CELL", Check.days(x, "go a to 1;wait a 240;wave 40;"), 3);
        Check.daysFault(x, "go a to 2;", 4, 8);
    }

    private static void stepsBeginSo() {
        List<String> steps = List.of("go", "set", "wait", "lift", "gull", "wave", "tide", "when", "loop", "stop");
        for (String word : Edge.WORDS) {
            if (steps.contains(word)) {
                faulty(word + " <", 2, word.length() + 1);
                faulty(word, 2, word.length());
                faulty("tide;" + word, 2, 5 + word.length());
            } else {
                faulty(word, 2, 0);
                faulty("tide;" + word + ";", 2, 5);
            }
        }
    }

    private static void testsBeginSo() {
        for (String word : Edge.WORDS) {
            if (!List.of("leads", "last", "free").contains(word)) {
                faulty("when " + word, 2, 5);
            }
        }
        faulty("when a", 2, 5);
        faulty("when 1", 2, 5);
        faulty("when ;", 2, 5);
        faulty("when ?", 1, 5);
        taken("when leads a = 0; end;when last c on z; end;when free z; end;", 3);
    }

    private static void comparesAreThree() {
        taken("when leads a<0;end;when leads a>0;end;when leads a=0;end;", 3);
        faulty("when leads a;0;end;", 2, 12);
        faulty("when leads a 0;end;", 2, 13);
        faulty("when leads a==0;end;", 2, 13);
        faulty("when leads a<=0;end;", 2, 13);
        faulty("when leads a!0;end;", 1, 12);
        faulty("when leads a at 0;end;", 2, 13);
        faulty("when leads a 60 0;end;", 2, 13);
        faulty("tide 59", 2, 5);
    }

    private static void namesMustBeThere() {
        String[] aheadOfFinder = {"go ", "set ", "wait ", "lift ", "when leads ", "when last "};
        String[] aheadOfFind = {"set a on ", "lift a on ", "when last a on ", "when free "};
        for (String ahead : aheadOfFinder) {
            for (String name : new String[] {"d", "x", "aa", "goes", "abcdefgh"}) {
                faulty(ahead + name + ";", 3, ahead.length());
            }
            faulty(ahead + "abcdefghi;", 2, ahead.length());
            faulty(ahead + ";", 2, ahead.length());
            faulty(ahead + "1;", 2, ahead.length());
        }
        for (String ahead : aheadOfFind) {
            for (String name : new String[] {"d", "a", "xx", "ends", "abcdefgh"}) {
                faulty(ahead + name + ";", 3, ahead.length());
            }
            faulty(ahead + "abcdefghi;", 2, ahead.length());
            faulty(ahead + ";", 2, ahead.length());
            faulty(ahead + "1;", 2, ahead.length());
        }
        taken("set c on z;lift c on z;wait c 1;go c to 0;", 4);
    }

    private static void namesAreNoneOfTheWords() {
        for (String word : Edge.WORDS) {
            faulty("go " + word + " to 1;", 2, 3);
            faulty("set a on " + word + ";", 2, 9);
        }
    }

    private static void thirtySteps() {
        taken("tide;".repeat(30), 30);
        faulty("tide;".repeat(30) + "tide;", 6, 150);
        faulty("tide;".repeat(30) + "loop", 6, 150);
        faulty("tide;".repeat(30) + "when", 6, 150);
        faulty("tide;".repeat(30) + "go d to 99", 6, 150);
        faulty("tide;".repeat(30) + "to", 2, 150);
        faulty("tide;".repeat(30) + ";", 2, 150);
        faulty("tide;".repeat(29) + "loop 1;tide;end;", 6, 152);
        faulty("tide;".repeat(28) + "loop 1;tide;end;stop", 6, 156);
    }

    private static void endIsNoStep() {
        taken("loop 3;end;".repeat(27), 27);
        taken("tide;".repeat(29) + "loop 1;end;", 30);
        taken("tide;".repeat(27) + FOURTH + "end;end;end;", 30);
        taken("tide;".repeat(28) + "loop 1;tide;end;", 30);
        faulty("tide;".repeat(30) + "end;", 2, 150);
    }

    private static void whenAndLoopWithinThree() {
        String when = "when free x;";
        taken(FOURTH + "end;end;end;", 3);
        taken(when + when + when + "tide;end;end;end;", 4);
        taken("loop 1;" + when + "loop 2;tide;end;end;end;", 4);
        taken(FOURTH + "end;loop 1;end;end;loop 1;end;end;", 5);
        faulty(FOURTH + "loop 1;", 7, 21);
        faulty(FOURTH + when, 7, 21);
        faulty(when + when + when + "loop 1;", 7, 36);
        faulty(when + when + when + when, 7, 36);
        faulty(FOURTH + "end;loop 1;loop", 7, 32);
        faulty(FOURTH + "end;end;loop 1;loop 1;when", 7, 43);
        faulty(FOURTH + "tide;loop", 7, 26);
    }

    private static void endWithoutABeginning() {
        faulty("end;", 2, 0);
        faulty("tide;end;", 2, 5);
        faulty("loop 1;end;end;", 2, 11);
        faulty("when free x;end;end;", 2, 16);
        faulty("loop 1;loop 1;end;end;tide;end;", 2, 27);
    }

    private static void textsEndAheadOfAnEnd() {
        faulty("loop 1;", 2, 7);
        faulty("loop 1; \n", 2, 9);
        faulty("when free x;tide;", 2, 17);
        faulty("loop 1;loop 1;end;", 2, 18);
        faulty(FOURTH + "end;end;", 2, 29);
        faulty("loop 1;end", 2, 10);
        faulty("loop 1;end tide;", 2, 11);
    }

    private static void theEndStandsAtTheLength() {
        String[] tokens = ("go a to 3 ; set a on x ; wait b 9 ; lift c on z ; gull 9 ; wave 9 ; tide ; stop ; "
                + "when leads a < 9 ; end ; when last a on x ; end ; when free x ; end ; loop 9 ; end ;").split(" ");
        String text = "";
        int steps = 0;
        for (String token : tokens) {
            // Behind the head of a when or loop there is an end to come.
            boolean open = text.matches("(.* )?(when|loop) [^;]*; ");
            if ((text.isEmpty() || text.endsWith("; ")) && !open) {
                taken(text, steps);
                taken(text.trim(), steps);
                steps++;
            } else {
                faulty(text, 2, text.length());
                faulty(text.trim(), 2, text.trim().length());
            }
            text = text + token + " ";
        }
        taken(text, 12);
    }

    private static void leastKindOfOneToken() {
        // 2 ahead of 6 and 7: what is no STEP, behind thirty of them
        faulty("tide;".repeat(27) + FOURTH + "x", 2, 156);
        // 1 ahead of all
        faulty("tide;".repeat(27) + FOURTH + "12345", 1, 156);
        // 6 ahead of 7
        faulty("tide;".repeat(27) + FOURTH + "loop 1;", 6, 156);
        faulty("tide;".repeat(27) + FOURTH + "when free x;", 6, 156);
        faulty("tide;".repeat(26) + FOURTH + "loop 1;", 7, 151);
        faulty("when leads a < 99999;", 1, 15);
        faulty("go 99999", 1, 3);
    }

    private static void firstFaultAlongTheText() {
        faulty("go d to 99;?", 3, 3);
        faulty("go a to 99;?", 4, 8);
        faulty("go a to 9;?", 1, 10);
        faulty("go a 99999;go d", 1, 5);
        faulty("loop 0;end;end;", 4, 5);
        faulty("loop 1;end;end;loop 0;", 2, 11);
        faulty("wait d 0;", 3, 5);
        faulty("set d on a;", 3, 4);
        faulty("set a at a;", 2, 6);
    }
}
