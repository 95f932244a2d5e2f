/** Promises 1 to 6 and 23: a test of its own for each sentence of the document that names a boundary. */
public final class EdgeYardTest {
    private static final Check check = new Check();
    private static final String GOOD = "e 4 ; j 3 2 1 9 ;";

    public static void main(String[] args) {
        aNewObjectHasNoJumpers();
        everyIsFrom2To9();
        theRopeComesFirstInTickEveryLess1();
        sixJumpersAtMost();
        numbersOfAJumper();
        aLetterIsFrom0To255();
        theTextHas120LettersAtMost();
        aFullTextIsEmptiedAndFilledAnew();
        clearTellsHowManyThereWere();
        theEmptyText();
        blanksBetweenTokens();
        digitsThatTouchAreOneNumber();
        eachItemIsEndedBySemicolon();
        everyIsToldOnceAtMost();
        aSeventhJumper();
        aTokenThatCantStandThere();
        anyOtherLetter();
        aNumberAbove99();
        aZeroAheadOfOthers();
        theTextEndsTooEarly();
        faultsAtTheFirstAndTheLastPlace();
        theFirstFaultCounts();
        nothingOfAFaultyTextIsLeft();
        theTextTellsAllAnew();
        whatIsAskedOfAJumper();
        whichJumperIsAsked();
        forHowManyMoreTicksHeIsUp();
        inHowManyTicksHeIsDue();
        aTripIsBehind1To120();
        whoIsOutHasNoTrip();
        whatIsAskedOfNow();
        inHowManyTicksTheRopeComes();
        whoIsInAsBits();
        theFirstIsBehind1To120();
        allWhoAreOutFirst();
        tenMayBeUndone();
        whatIsCounted();
        check.end();
    }

    private static void reads(String text, int want) {
        SkipRope rope = new SkipRope();
        Check.type(rope, text);
        check.due("yard of '" + text + "'", rope.yard(), want);
    }

    private static void fault(String text, int place) {
        reads(text, -10 - place);
    }

    // ---- promise 1

    /** "As told; no JUMPERS." */
    private static void aNewObjectHasNoJumpers() {
        SkipRope rope = new SkipRope();
        check.due("new: jumpers", rope.count(0), 0);
        check.due("new: who is in", rope.now(3), 0);
        check.due("new: first", rope.now(4), SkipRope.NONE);
        check.due("new: who first", rope.now(5), 0);
        check.due("new: stay(0)", rope.stay(0), 0);
        check.due("new: stay(120)", rope.stay(120), 0);
        check.due("new: pace(120)", rope.pace(120), 2);
        check.due("new: odds, upper", rope.odds(10, 60, 0), 1);
        check.due("new: odds, lower", rope.odds(10, 60, 1), 1);
        check.due("new: ways", rope.ways(0), 132);
        check.due("new: tick", rope.ticks(), 0);
        check.due("new: all who are none", rope.now(3), 0);
    }

    /** "EVERY so many TICKS (2 .. 9; 4 at first)" */
    private static void everyIsFrom2To9() {
        check.due("EVERY at first", new SkipRope().now(1), 4);
        for (int n = 0; n <= 99; n++) {
            boolean stands = n >= 2 && n <= 9;
            SkipRope rope = new SkipRope();
            Check.type(rope, "e" + n + ";");
            check.due("yard of e" + n + ";", rope.yard(), stands ? 1 : -11);
            check.due("EVERY behind e" + n + ";", rope.now(1), stands ? n : 4);
        }
        SkipRope rope = Check.yard("e9;");
        for (int turn = 0; turn < 3; turn++) {
            Check.type(rope, "j2 1 0 1;");
            rope.yard();
            check.due("EVERY is 4 anew, if it is not told", rope.now(1), 4);
        }
    }

    /** "at first in the TICK numbered EVERY less 1" */
    private static void theRopeComesFirstInTickEveryLess1() {
        for (int every = 2; every <= 9; every++) {
            SkipRope rope = Check.yard("e" + every + ";j12 1 11 1;");
            for (int t = 0; t < every; t++) {
                check.due("e" + every + ", tick " + t, rope.ticks(), t == every - 1 ? 1 : 0);
            }
        }
        SkipRope rope = Check.yard("j12 1 11 1;");
        for (int t = 0; t < 4; t++) {
            check.due("no e, tick " + t, rope.ticks(), t == 3 ? 1 : 0);
        }
    }

    /** "JUMPERS 0 .. (6 at most)" */
    private static void sixJumpersAtMost() {
        for (int n = 0; n <= 6; n++) {
            SkipRope rope = Check.yard("j12 4 11 60;".repeat(n));
            check.due(n + " jumpers", rope.count(0), n);
            check.due(n + " jumpers, all in", rope.now(3), (1 << n) - 1);
            check.due("the last of " + n, rope.jumper(n - 1, 0), n == 0 ? SkipRope.BAD : 12);
            check.due("none behind the last of " + n, rope.jumper(n, 0), SkipRope.BAD);
        }
        fault("j12 4 11 60;".repeat(7), 72);
    }

    /** "PERIOD (2 .. 12), HANG (1 .. 4), START (0 .. 11), WIND (1 .. 60)" */
    private static void numbersOfAJumper() {
        int[] least = {2, 1, 0, 1};
        int[] most = {12, 4, 11, 60};
        int[] asked = {0, 1, 5, 2};
        for (int part = 0; part < 4; part++) {
            for (int n = 0; n <= 99; n++) {
                String[] parts = {"2", "1", "0", "1"};
                parts[part] = String.valueOf(n);
                String text = "j" + String.join(" ", parts) + ";";
                boolean stands = n >= least[part] && n <= most[part];
                SkipRope rope = new SkipRope();
                Check.type(rope, text);
                check.due("yard of '" + text + "'", rope.yard(), stands ? 1 : -11 - 2 * part);
                check.due("what '" + text + "' told", rope.jumper(0, asked[part]), stands ? n : SkipRope.BAD);
            }
        }
    }

    // ---- promise 2

    /** "A letter (0 .. 255) comes to THE TEXT: how many it has. BAD" */
    private static void aLetterIsFrom0To255() {
        SkipRope rope = new SkipRope();
        int[] wrong = {-1, 256, 257, -255, Integer.MIN_VALUE, Integer.MAX_VALUE, 'e' + 256, 'e' - 256};
        for (int letter : wrong) {
            check.due("type(" + letter + ")", rope.type(letter), SkipRope.BAD);
            check.due("letters behind type(" + letter + ")", rope.count(2), 0);
        }
        check.due("type(0)", rope.type(0), 1);
        check.due("type(255)", rope.type(255), 2);
        for (int letter = 0; letter <= 255; letter++) {
            check.due("type(" + letter + ") into an empty text", new SkipRope().type(letter), 1);
        }
    }

    /** "(120 letters at most)", "FULL" */
    private static void theTextHas120LettersAtMost() {
        SkipRope rope = new SkipRope();
        Check.type(rope, "e7" + " ".repeat(117));
        check.due("letters", rope.count(2), 119);
        check.due("the letter 120", rope.type(';'), 120);
        check.due("the letter 121", rope.type('x'), SkipRope.FULL);
        check.due("the letter 121 again", rope.type(0), SkipRope.FULL);
        check.due("letters, full", rope.count(2), 120);
        check.due("the refused ones are no part of it", rope.yard(), 1);
        check.due("it is read", rope.now(1), 7);
    }

    /** A wrap-around: the room of a full text is used again. */
    private static void aFullTextIsEmptiedAndFilledAnew() {
        SkipRope rope = new SkipRope();
        Check.type(rope, "e7;" + " ".repeat(117));
        rope.yard();
        check.due("the first letter behind yard", rope.type('x'), 1);
        Check.type(rope, "x".repeat(119));
        check.due("full again", rope.type(' '), SkipRope.FULL);
        check.due("clear", rope.clear(), 120);
        check.due("the first letter behind clear", rope.type('e'), 1);
        check.due("nothing of the old one is left", rope.yard(), -11);
    }

    // ---- promise 3

    /** "THE TEXT is empty: how many letters it had." */
    private static void clearTellsHowManyThereWere() {
        SkipRope rope = new SkipRope();
        check.due("clear of nothing", rope.clear(), 0);
        rope.type(' ');
        check.due("clear of one letter", rope.clear(), 1);
        check.due("letters", rope.count(2), 0);
        check.due("clear again", rope.clear(), 0);
        Check.type(rope, "x".repeat(130));
        check.due("clear of a full text", rope.clear(), 120);
        check.due("letters", rope.count(2), 0);
    }

    // ---- promise 4

    /** "how many ITEMS", none. */
    private static void theEmptyText() {
        reads("", 0);
        reads(" ", 0);
        reads(" ".repeat(120), 0);
        SkipRope rope = Check.yard("e2;j2 1 0 1;");
        check.due("the empty text", rope.yard(), 0);
        check.due("tells that there is nobody", rope.count(0), 0);
        check.due("and the rope as at first", rope.now(1), 4);
    }

    /** "blanks (32) between TOKENS" */
    private static void blanksBetweenTokens() {
        reads("e4;j3 2 1 9;", 2);
        reads("e4 ;j3  2   1    9     ;", 2);
        reads(GOOD, 2);
        reads("   " + GOOD + "   ", 2);
        // No other letter is a blank.
        for (int letter : new int[] {0, 9, 10, 11, 12, 13, 31, 33, 95, 127, 128, 160, 255}) {
            fault("e" + (char) letter + "4;", 1);
        }
    }

    private static void digitsThatTouchAreOneNumber() {
        reads("j12 1 0 1;", 1);
        fault("j1 2 1 0 1;", 1);
        fault("j3 21 9;", 3);
        fault("j3 2 19;", 5);
        fault("j3 2 1 9 9;", 9);
        fault("e3 3;", 3);
        reads("j3 2 1 60;", 1);
        fault("j3 2 1 6 0;", 9);
    }

    /** "ITEMS, each ended by ;" */
    private static void eachItemIsEndedBySemicolon() {
        fault("e4", 2);
        fault("j3 2 1 9", 8);
        fault("e4 j3 2 1 9;", 3);
        fault("j3 2 1 9 j3 2 1 9;", 9);
        fault("j3 2 1 9 e4;", 9);
        fault(";", 0);
        fault("e4;;", 3);
        fault("j3 2 1 9; ;", 10);
        String[] texts = {"", "j3 2 1 9;", "e4;j3 2 1 9;"};
        for (int n = 0; n < texts.length; n++) {
            reads(texts[n], n);
        }
        reads("j3 2 1 9;".repeat(6), 6);
        reads("j3 2 1 9;".repeat(6) + "e4;", 7);
        reads("e4;" + "j3 2 1 9;".repeat(6), 7);
        reads("j3 2 1 9;".repeat(3) + "e4;" + "j3 2 1 9;".repeat(3), 7);
    }

    /** "e N (EVERY; once at most)", "(e again ..)" */
    private static void everyIsToldOnceAtMost() {
        reads("e4;", 1);
        reads("j3 2 1 9;", 1);
        fault("e4;e4;", 3);
        fault("e4;e", 3);
        fault("e4;j3 2 1 9;e5;", 12);
        fault("j3 2 1 9; e4; e5;", 14);
        fault("e4;" + "j3 2 1 9;".repeat(6) + " e4;", 58);
    }

    /** "a seventh j" */
    private static void aSeventhJumper() {
        String six = "j3 2 1 9;".repeat(6);
        fault(six + "j3 2 1 9;", 54);
        fault(six + "j", 54);
        fault(six + "  j", 56);
        fault(six + "e4;j", 57);
        fault("e4;" + six + "j3 2 1 9;", 57);
    }

    /** "the place of the first letter of the first TOKEN that can't stand there" */
    private static void aTokenThatCantStandThere() {
        String wantsItem = "ej";
        for (int place = 0; place < GOOD.length(); place += 2) {
            char there = GOOD.charAt(place);
            for (char token : "ej;5".toCharArray()) {
                boolean fits = token == there
                    || (Character.isDigit(there) && Character.isDigit(token))
                    || (wantsItem.indexOf(there) >= 0 && wantsItem.indexOf(token) >= 0);
                if (!fits) {
                    fault(GOOD.substring(0, place) + token + GOOD.substring(place + 1), place);
                }
            }
        }
        fault(GOOD + "5", 17);
        fault(GOOD + ";", 17);
        // Of a NUMBER beyond what it may be, the place of its first digit.
        fault("e 10;", 2);
        fault("j 2 1 11 61;", 9);
    }

    /** "of any other letter .. that TOKEN's" */
    private static void anyOtherLetter() {
        for (int letter = 0; letter <= 255; letter++) {
            char sign = (char) letter;
            boolean starts = sign == 'e' || sign == 'j';
            if (sign == ' ') {
                reads(" ", 0);
            } else {
                fault(String.valueOf(sign), starts ? 1 : 0);
            }
            if ("ej; 0123456789".indexOf(sign) < 0) {
                fault("e4;  " + sign, 5);
                fault("j12" + sign, 3);
                fault("j3 2 1 9" + sign + ";", 8);
            }
        }
        for (int place = 0; place < GOOD.length(); place += 2) {
            fault(GOOD.substring(0, place) + "x" + GOOD.substring(place + 1), place);
        }
        // What stands right beside the letters that may be.
        for (char sign : "/:<dfikEJ".toCharArray()) {
            fault(GOOD + sign, 17);
        }
    }

    /** "a NUMBER above 99" */
    private static void aNumberAbove99() {
        for (int place = 0; place < GOOD.length(); place += 2) {
            for (String number : new String[] {"100", "1000", "4294967298", "18446744073709551618"}) {
                fault(GOOD.substring(0, place) + number + GOOD.substring(place + 1), place);
            }
        }
        fault("j3 2 1 99;", 7);
        fault("j3 2 1 100;", 7);
        fault("9".repeat(120), 0);
        fault("e" + "2".repeat(119), 1);
    }

    /** "or with a 0 ahead of others" */
    private static void aZeroAheadOfOthers() {
        for (int place = 0; place < GOOD.length(); place += 2) {
            for (String number : new String[] {"00", "01", "02", "09", "010", "0000"}) {
                fault(GOOD.substring(0, place) + number + GOOD.substring(place + 1), place);
            }
        }
        reads("j3 2 0 9;", 1);
        reads("j10 2 0 10;", 1);
    }

    /** "the text's length, if it ends too early" */
    private static void theTextEndsTooEarly() {
        for (int length = 0; length <= GOOD.length(); length++) {
            String text = GOOD.substring(0, length);
            if (length == 0 || length == 5 || length == 6) {
                reads(text, Math.min(length, 1));
            } else if (length < GOOD.length()) {
                fault(text, length);
            } else {
                reads(text, 2);
            }
        }
        fault("e4   ", 5);
        fault("j12 4 11 6", 10);
        // A NUMBER that is cut off may be beyond what it may be: that is its own place.
        fault("j1", 1);
    }

    /** "-10 less FAULT", the least and the greatest one. */
    private static void faultsAtTheFirstAndTheLastPlace() {
        reads("x", -10);
        reads("x".repeat(120), -10);
        reads(" ".repeat(119) + "x", -129);
        reads(" ".repeat(119) + "e", -130);
        reads("e4" + " ".repeat(118), -130);
    }

    /** "the first TOKEN", whatever is wrong with it and with those behind it. */
    private static void theFirstFaultCounts() {
        fault("e1 x", 1);
        fault("x e1", 0);
        fault("e4 100 ;", 3);
        fault("e4;e4;x", 3);
        fault("j2 5 x", 3);
        fault("j2 1 00 99", 5);
        fault("; 100", 0);
        fault("e4;4 x 01", 3);
    }

    /** "nothing changes", also not for the text that is read next. */
    private static void nothingOfAFaultyTextIsLeft() {
        SkipRope rope = new SkipRope();
        for (String faulty : new String[] {"e9;j2 1 0 1;j12 4 11 60;x", "e9;" + "j12 4 11 60;".repeat(6) + "j", "e9"}) {
            Check.type(rope, faulty);
            check.holds("a fault in '" + faulty + "'", rope.yard() <= -10);
            rope.clear();
            Check.type(rope, "j5 2 3 8;");
            check.due("behind '" + faulty + "'", rope.yard(), 1);
            check.due("EVERY", rope.now(1), 4);
            check.due("jumpers", rope.count(0), 1);
            check.due("period", rope.jumper(0, 0), 5);
            check.due("in", rope.now(3), 1);
        }
    }

    /** "THE TEXT tells all anew, and is empty then"; "(Read anew: as told, nothing SEEN, IMAGES are gone.)" */
    private static void theTextTellsAllAnew() {
        SkipRope rope = Check.yard("e9;j2 4 0 60;j3 1 2 9;");
        Check.ticks(rope, 3);
        rope.keep(0);
        rope.keep(1);
        rope.sees(1, 0, 1);
        rope.goes(1);
        rope.speeds(2);
        Check.type(rope, "j5 2 3 8;");
        check.due("yard", rope.yard(), 1);
        check.due("the text is empty", rope.count(2), 0);
        check.due("one jumper", rope.count(0), 1);
        int[] now = {0, 4, 4, 1, 8, 1, 0};
        int[] jumper = {5, 2, 8, 1, 0, 3, 8};
        for (int what = 0; what <= 6; what++) {
            check.due("anew: now(" + what + ")", rope.now(what), now[what]);
            check.due("anew: jumper(0, " + what + ")", rope.jumper(0, what), jumper[what]);
            check.due("anew: jumper(1, " + what + ")", rope.jumper(1, what), SkipRope.BAD);
        }
        check.due("nothing seen", rope.count(1), 0);
        check.due("image 0 is gone", rope.back(0), SkipRope.STATE);
        check.due("image 1 is gone", rope.back(1), SkipRope.STATE);
        check.due("nothing can be undone", rope.undo(), SkipRope.STATE);
        check.due("a yard right behind it reads the empty text", rope.yard(), 0);
        check.due("nobody is there", rope.count(0), 0);
    }

    // ---- promise 5

    private static void whatIsAskedOfAJumper() {
        SkipRope rope = Check.yard("e9;j12 4 11 60;");
        int[] wrong = {-1, 7, 8, Integer.MIN_VALUE, Integer.MAX_VALUE};
        for (int what : wrong) {
            check.due("jumper(0, " + what + ")", rope.jumper(0, what), SkipRope.BAD);
        }
        int[] due = {12, 4, 60, 1, 0, 11, 9};
        for (int what = 0; what <= 6; what++) {
            check.due("jumper(0, " + what + ")", rope.jumper(0, what), due[what]);
        }
    }

    private static void whichJumperIsAsked() {
        int[] wrong = {-1, Integer.MIN_VALUE, Integer.MAX_VALUE};
        for (int n = 0; n <= 6; n++) {
            SkipRope rope = Check.yard("j2 1 0 1;".repeat(n));
            for (int what = 0; what <= 6; what++) {
                check.due(n + " there: jumper(" + n + ", " + what + ")", rope.jumper(n, what), SkipRope.BAD);
                for (int j : wrong) {
                    check.due(n + " there: jumper(" + j + ", " + what + ")", rope.jumper(j, what), SkipRope.BAD);
                }
            }
        }
        check.due("wrong in both", new SkipRope().jumper(6, 7), SkipRope.BAD);
    }

    /** "4 for how many more TICKS he is UP": none ahead of a jump and at its end, HANG less 1 right behind its tick. */
    private static void forHowManyMoreTicksHeIsUp() {
        for (int hang = 1; hang <= 4; hang++) {
            SkipRope rope = Check.yard("e9;j12 " + hang + " 1 9;");
            for (int t = 0; t <= 7; t++) {
                int more = t < 2 ? 0 : Math.max(0, hang + 1 - t);
                check.due("hang " + hang + ", tick " + t, rope.jumper(0, 4), more);
                rope.ticks();
            }
        }
        // Who jumps in the air is up for HANG TICKS from then on, not for the rest of the old jump too.
        SkipRope rope = Check.yard("e9;j2 4 0 2;");
        int[] more = {0, 3, 2, 3, 2, 1, 0, 0};
        for (int t = 0; t < more.length; t++) {
            check.due("jumps in the air, tick " + t, rope.jumper(0, 4), more[t]);
            rope.ticks();
        }
    }

    /** "5 in how many TICKS he is due (0: in the next one; NONE: he is OUT)" */
    private static void inHowManyTicksHeIsDue() {
        for (int start = 0; start <= 11; start++) {
            SkipRope rope = Check.yard("e9;j12 4 " + start + " 9;");
            check.due("due first, START " + start, rope.jumper(0, 5), start);
        }
        for (int period = 2; period <= 12; period++) {
            SkipRope rope = Check.yard("e9;j" + period + " 1 0 9;");
            check.due("due in the next one", rope.jumper(0, 5), 0);
            rope.ticks();
            check.due("due again, PERIOD " + period, rope.jumper(0, 5), period - 1);
        }
        SkipRope rope = Check.yard("e2;j12 1 0 9;");
        rope.goes(0);
        check.due("he went out", rope.jumper(0, 5), SkipRope.NONE);
        rope.comes(0, 11);
        check.due("he came in", rope.jumper(0, 5), 11);
        Check.ticks(rope, 2);
        check.due("he tripped", rope.jumper(0, 5), SkipRope.NONE);
    }

    /** "TRIP of one who is IN: behind how many TICKS (1 .. 120) he is OUT first; NONE." */
    private static void aTripIsBehind1To120() {
        // He meets the ropes of 3, 7, .. 119 and trips by that of tick 123.
        SkipRope rope = Check.yard("j4 1 3 30;");
        Check.ticks(rope, 3);
        check.due("behind 121", rope.jumper(0, 6), SkipRope.NONE);
        rope.ticks();
        check.due("behind 120", rope.jumper(0, 6), 120);
        rope.ticks();
        check.due("behind 119", rope.jumper(0, 6), 119);
        Check.ticks(rope, 118);
        check.due("in the next one", rope.jumper(0, 6), 1);
        check.due("he does", rope.ticks(), 1);
        check.due("he is out", rope.jumper(0, 6), SkipRope.NONE);
    }

    /** "6 TRIP (NONE; he is OUT, too)" */
    private static void whoIsOutHasNoTrip() {
        SkipRope rope = Check.yard("e2;j12 1 11 9;j12 1 11 9;");
        check.due("in", rope.jumper(1, 6), 2);
        rope.goes(1);
        check.due("went out", rope.jumper(1, 6), SkipRope.NONE);
        check.due("the other one", rope.jumper(0, 6), 2);
        Check.ticks(rope, 2);
        check.due("tripped", rope.jumper(0, 6), SkipRope.NONE);
    }

    // ---- promise 6

    private static void whatIsAskedOfNow() {
        SkipRope rope = new SkipRope();
        int[] wrong = {-1, 7, 8, Integer.MIN_VALUE, Integer.MAX_VALUE};
        for (int what : wrong) {
            check.due("now(" + what + ")", rope.now(what), SkipRope.BAD);
        }
        check.due("now(0)", rope.now(0), 0);
        check.due("now(6)", rope.now(6), 0);
    }

    /** "2 in how many TICKS THE ROPE comes round (1: in the next one)", up to EVERY, or one more behind a trip. */
    private static void inHowManyTicksTheRopeComes() {
        for (int every = 2; every <= 9; every++) {
            SkipRope rope = Check.yard("e" + every + ";j12 1 11 1;");
            for (int t = 0; t < every; t++) {
                check.due("e" + every + ", tick " + t, rope.now(2), every - t);
                rope.ticks();
            }
            for (int t = 0; t <= every; t++) {
                check.due("e" + every + ", " + t + " behind a trip", rope.now(2), every + 1 - t);
                rope.ticks();
            }
            check.due("e" + every + ", nobody tripped", rope.now(2), every);
        }
    }

    /** "3 who is IN (bits)", all of six to none. */
    private static void whoIsInAsBits() {
        SkipRope rope = Check.yard("j12 1 11 9;".repeat(6));
        check.due("all", rope.now(3), 63);
        for (int j = 5; j >= 0; j--) {
            rope.goes(j);
            check.due("without " + j + " and those behind", rope.now(3), (1 << j) - 1);
        }
        rope.comes(5, 0);
        check.due("the sixth alone", rope.now(3), 32);
    }

    /** "FIRST: behind how many TICKS somebody is OUT first who is IN NOW .. NONE" */
    private static void theFirstIsBehind1To120() {
        SkipRope rope = Check.yard("j4 1 3 30;j4 1 3 60;");
        Check.ticks(rope, 3);
        check.due("behind 121", rope.now(4), SkipRope.NONE);
        check.due("behind 121: who", rope.now(5), 0);
        rope.ticks();
        check.due("behind 120", rope.now(4), 120);
        check.due("behind 120: who", rope.now(5), 1);
        Check.ticks(rope, 119);
        check.due("in the next one", rope.now(4), 1);
        check.due("in the next one: who", rope.now(5), 1);
        rope.ticks();
        // He who is left has wind for 29 more ropes by 4, but now it comes one tick later than he jumps.
        check.due("then the other one", rope.now(4), 5);
        check.due("then the other one: who", rope.now(5), 2);
        rope.goes(1);
        check.due("nobody is in", rope.now(4), SkipRope.NONE);
        check.due("nobody is in: who", rope.now(5), 0);
    }

    /** "who (bits; all then)" */
    private static void allWhoAreOutFirst() {
        SkipRope rope = Check.yard("e9;" + "j12 1 11 9;".repeat(6));
        check.due("all six", rope.now(5), 63);
        rope.goes(0);
        rope.goes(5);
        check.due("who is out is none of them", rope.now(5), 30);
        // By tick 8 the second and the fourth are up, the first and the third trip; the others later are not told.
        rope = Check.yard("e9;j12 1 11 9;j9 1 8 9;j12 1 11 9;j9 1 8 1;");
        check.due("those alone who are first", rope.now(5), 5);
        check.due("behind how many", rope.now(4), 9);
    }

    /** "6 how many may be UNDONE", "(10 are known ..)" */
    private static void tenMayBeUndone() {
        SkipRope rope = new SkipRope();
        for (int n = 0; n <= 12; n++) {
            check.due("behind " + n + " ticks", rope.now(6), Math.min(n, 10));
            rope.ticks();
        }
    }

    // ---- promise 23

    /** "0 JUMPERS, 1 SEEN, 2 letters of THE TEXT. BAD." */
    private static void whatIsCounted() {
        SkipRope rope = Check.yard("j2 1 0 1;".repeat(6));
        for (int n = 0; n < 7; n++) {
            rope.sees(1, n, 0);
        }
        Check.type(rope, "x".repeat(121));
        int[] due = {6, 6, 120};
        for (int what = 0; what <= 2; what++) {
            check.due("new: count(" + what + ")", new SkipRope().count(what), 0);
            check.due("full: count(" + what + ")", rope.count(what), due[what]);
        }
        int[] wrong = {-1, 3, Integer.MIN_VALUE, Integer.MAX_VALUE};
        for (int what : wrong) {
            check.due("count(" + what + ")", rope.count(what), SkipRope.BAD);
        }
        for (int j = 0; j < 6; j++) {
            rope.goes(j);
        }
        check.due("who is out is a jumper yet", rope.count(0), 6);
    }
}
