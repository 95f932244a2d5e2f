/** Promises 1 to 6 and 23: a new object, the text, what it told, how things are. */
public final class YardTest {
    private static final Check check = new Check();

    public static void main(String[] args) {
        aNewObject();
        theText();
        clearing();
        itemsCounted();
        faults();
        aFaultChangesNothing();
        readAnew();
        readAnewOften();
        aJumper();
        aJumperInTheAir();
        theRope();
        counts();
        check.end();
    }

    private static void aNewObject() {
        SkipRope rope = new SkipRope();
        int[] due = {0, 4, 4, 0, SkipRope.NONE, 0, 0};
        for (int what = 0; what < due.length; what++) {
            check.due("new: now(" + what + ")", rope.now(what), due[what]);
        }
        for (int what = 0; what < 3; what++) {
            check.due("new: count(" + what + ")", rope.count(what), 0);
        }
        check.due("new: trace", rope.trace(), 0);
        check.due("new: jumper(0, 0)", rope.jumper(0, 0), SkipRope.BAD);
        check.due("new: back(0)", rope.back(0), SkipRope.STATE);
        check.due("new: back(1)", rope.back(1), SkipRope.STATE);
        check.due("new: undo", rope.undo(), SkipRope.STATE);
        check.due("new: forget", rope.forget(), 0);
        check.due("new: clear", rope.clear(), 0);
        check.due("new: stay", rope.stay(120), 0);
        for (int t = 0; t < 3; t++) {
            check.due("new: nobody trips", rope.ticks(), 0);
        }
        check.due("new: the rope comes in tick 3", rope.now(2), 1);
        check.due("new: nobody trips", rope.ticks(), 0);
        check.due("new: the rope again behind 4", rope.now(2), 4);
    }

    private static void theText() {
        SkipRope rope = new SkipRope();
        check.due("type(-1)", rope.type(-1), SkipRope.BAD);
        check.due("type(256)", rope.type(256), SkipRope.BAD);
        check.due("type(MIN)", rope.type(Integer.MIN_VALUE), SkipRope.BAD);
        check.due("type(MAX)", rope.type(Integer.MAX_VALUE), SkipRope.BAD);
        check.due("type(0)", rope.type(0), 1);
        check.due("type(255)", rope.type(255), 2);
        for (int n = 3; n <= 120; n++) {
            check.due("type, the letter " + n, rope.type(' '), n);
        }
        check.due("type, full", rope.type(' '), SkipRope.FULL);
        check.due("type, bad ahead of full", rope.type(256), SkipRope.BAD);
        check.due("count of letters, full", rope.count(2), 120);
    }

    private static void clearing() {
        SkipRope rope = new SkipRope();
        check.due("clear, empty", rope.clear(), 0);
        Check.type(rope, "e2;");
        check.due("clear", rope.clear(), 3);
        check.due("clear again", rope.clear(), 0);
        check.due("yard of nothing", rope.yard(), 0);
        check.due("type behind clear", rope.type('e'), 1);
    }

    private static int reads(String text) {
        SkipRope rope = new SkipRope();
        Check.type(rope, text);
        return rope.yard();
    }

    private static void reads(String text, int want) {
        check.due("yard of '" + text + "'", reads(text), want);
    }

    private static void fault(String text, int place) {
        reads(text, -10 - place);
    }

    private static void itemsCounted() {
        reads("", 0);
        reads("   ", 0);
        reads("e2;", 1);
        reads("e9;", 1);
        reads("  e  9  ;  ", 1);
        reads("j2 1 0 1;", 1);
        reads("j12 4 11 60;", 1);
        reads("j12 4 11 60;e2;j2 1 0 1;", 3);
        reads("j2 1 0 1;j2 1 0 1;j2 1 0 1;j2 1 0 1;j2 1 0 1;j2 1 0 1;e3;", 7);
        StringBuilder full = new StringBuilder("e3;");
        while (full.length() < 120) {
            full.append(' ');
        }
        reads(full.toString(), 1);
    }

    private static void faults() {
        fault("e", 1);
        fault("e ", 2);
        fault("e4", 2);
        fault("e4  ", 4);
        fault("j2 1 0 1", 8);
        fault("j2 1 0 ", 7);
        fault("j", 1);
        fault("e4;e", 3);
        fault("e4;e5;", 3);
        fault("e4;j2 1 0 1; e5;", 13);
        fault(";", 0);
        fault("4", 0);
        fault("e4;;", 3);
        fault("e4;4;", 3);
        fault("e;", 1);
        fault("e e", 2);
        fault("e j", 2);
        fault("j;", 1);
        fault("je", 1);
        fault("e4 5;", 3);
        fault("e4e", 2);
        fault("e1;", 1);
        fault("e0;", 1);
        fault("e10;", 1);
        fault("j1 1 0 1;", 1);
        fault("j13 1 0 1;", 1);
        fault("j2 0 0 1;", 3);
        fault("j2 5 0 1;", 3);
        fault("j2 1 12 1;", 5);
        fault("j2 1 0 0;", 7);
        fault("j2 1 0 61;", 7);
        fault("j2 1 0 1 1;", 9);
        fault("j2 1 0 1;j2 1 0 1;j2 1 0 1;j2 1 0 1;j2 1 0 1;j2 1 0 1;j2 1 0 1;", 54);
        fault("j2 1 0 1;j2 1 0 1;j2 1 0 1;j2 1 0 1;j2 1 0 1;j2 1 0 1; j", 55);
        fault("x", 0);
        fault("  x", 2);
        fault("E4;", 0);
        fault("e-4;", 1);
        fault("e 4.;", 3);
        fault("e\t4;", 1);
        fault("e4;\n", 3);
        fault("e" + (char) 0 + "4;", 1);
        fault("e" + (char) 255 + "4;", 1);
        fault("e100;", 1);
        fault("e 04;", 2);
        fault("e00;", 1);
        fault("j2 1 00 1;", 5);
        fault("j2 1 0 01;", 7);
        fault("j2 1 0 100;", 7);
        fault("100", 0);
        fault("e4294967300;", 1);
        fault("e 18446744073709551620;", 2);
        // The first one counts, whatever stands behind it.
        fault("; x", 0);
        fault("e1 x", 1);
        fault("e4 x 100", 3);
        StringBuilder digits = new StringBuilder("e");
        while (digits.length() < 120) {
            digits.append('9');
        }
        fault(digits.toString(), 1);
    }

    private static void aFaultChangesNothing() {
        SkipRope rope = Check.yard("e5;j3 2 1 7;");
        rope.ticks();
        rope.keep(1);
        rope.sees(1, 2, 1);
        rope.rate(3, 0);
        Check.type(rope, "e2;j2 1 0 1;j2 1 0 1");
        java.util.List<Long> before = Check.all(rope);
        check.due("yard, too early an end", rope.yard(), -10 - 20);
        check.holds("a fault changes nothing", before.equals(Check.all(rope)));
        check.due("the text is there yet", rope.count(2), 20);
        check.due("undo goes on", rope.undo(), 0);
        check.due("the image is there yet", rope.back(1), 1);
        check.due("its end", rope.type(';'), 21);
        check.due("now it is read", rope.yard(), 3);
        check.due("and is empty then", rope.count(2), 0);
        check.due("a yard once more: empty", rope.yard(), 0);
        check.due("no jumpers", rope.count(0), 0);
    }

    private static void readAnew() {
        SkipRope rope = Check.yard("e7;j3 2 1 7;j4 1 0 9;");
        rope.rate(0, 1);
        rope.sees(1, 2, 1);
        rope.keep(0);
        rope.ticks();
        rope.keep(1);
        rope.speeds(2);
        rope.goes(0);
        check.due("three to undo", rope.now(6), 3);
        Check.type(rope, "j2 1 5 3;");
        check.due("yard, anew", rope.yard(), 1);
        int[] due = {0, 4, 4, 1, 4, 1, 0};
        for (int what = 0; what < due.length; what++) {
            check.due("anew: now(" + what + ")", rope.now(what), due[what]);
        }
        check.due("anew: jumpers", rope.count(0), 1);
        check.due("anew: seen", rope.count(1), 0);
        check.due("anew: ways", rope.ways(0), 132);
        check.due("anew: image 0", rope.back(0), SkipRope.STATE);
        check.due("anew: image 1", rope.back(1), SkipRope.STATE);
        check.due("anew: undo", rope.undo(), SkipRope.STATE);
        check.due("anew: wind", rope.jumper(0, 2), 3);
        check.due("anew: due", rope.jumper(0, 5), 5);
        check.due("anew: nobody else", rope.jumper(1, 0), SkipRope.BAD);
        check.due("anew: the trace goes on", rope.trace(), 1);
    }

    private static void readAnewOften() {
        SkipRope rope = Check.yard("e7;j2 4 0 9;j2 4 0 9;");
        for (int turn = 0; turn < 3; turn++) {
            rope.ticks();
            check.due("in the air", rope.jumper(0, 4), 3);
            Check.type(rope, "j2 4 0 9;");
            check.due("yard", rope.yard(), 1);
            check.due("4, if it is not told", rope.now(1), 4);
            check.due("the rope in 4", rope.now(2), 4);
            check.due("nobody is in the air", rope.jumper(0, 4), 0);
            check.due("wind", rope.jumper(0, 2), 9);
            check.due("one jumper", rope.count(0), 1);
        }
    }

    private static void aJumper() {
        SkipRope rope = Check.yard("e4;j12 4 11 60;j2 1 0 1;");
        int[] first = {12, 4, 60, 1, 0, 11, 4};
        int[] second = {2, 1, 1, 1, 0, 0, 4};
        for (int what = 0; what < 7; what++) {
            check.due("jumper(0, " + what + ")", rope.jumper(0, what), first[what]);
            check.due("jumper(1, " + what + ")", rope.jumper(1, what), second[what]);
            check.due("jumper(-1, " + what + ")", rope.jumper(-1, what), SkipRope.BAD);
            check.due("jumper(2, " + what + ")", rope.jumper(2, what), SkipRope.BAD);
            check.due("jumper(6, " + what + ")", rope.jumper(6, what), SkipRope.BAD);
        }
        check.due("jumper(0, -1)", rope.jumper(0, -1), SkipRope.BAD);
        check.due("jumper(0, 7)", rope.jumper(0, 7), SkipRope.BAD);
        check.due("jumper(MIN, 0)", rope.jumper(Integer.MIN_VALUE, 0), SkipRope.BAD);
        check.due("jumper(MAX, MAX)", rope.jumper(Integer.MAX_VALUE, Integer.MAX_VALUE), SkipRope.BAD);
        Check.ticks(rope, 4);
        int[] out = {12, 4, 60, 0, 0, SkipRope.NONE, SkipRope.NONE};
        for (int what = 0; what < 7; what++) {
            check.due("tripped: jumper(0, " + what + ")", rope.jumper(0, what), out[what]);
        }
    }

    private static void aJumperInTheAir() {
        SkipRope rope = Check.yard("e9;j5 3 1 2;");
        // Up in the ticks 1, 2, 3 and 6, 7, 8, due again in 11 without wind: the rope of 8 finds him up, that of 17 not.
        int[] up = {0, 0, 2, 1, 0, 0, 0, 2, 1, 0, 0, 0};
        int[] due = {1, 0, 4, 3, 2, 1, 0, 4, 3, 2, 1, 0};
        int[] wind = {2, 2, 1, 1, 1, 1, 1, 0, 0, 0, 0, 0};
        for (int t = 0; t < up.length; t++) {
            check.due("tick " + t + ": up", rope.jumper(0, 4), up[t]);
            check.due("tick " + t + ": due", rope.jumper(0, 5), due[t]);
            check.due("tick " + t + ": wind", rope.jumper(0, 2), wind[t]);
            check.due("tick " + t + ": trip", rope.jumper(0, 6), 18 - t);
            rope.ticks();
        }
        check.due("due again without wind", rope.jumper(0, 5), 4);
        check.due("not up without wind", rope.jumper(0, 4), 0);
        check.due("no wind", rope.jumper(0, 2), 0);
        // He jumps anew ahead of coming down.
        rope = Check.yard("j2 4 0 60;");
        check.due("always up till his wind ends, behind 124", rope.jumper(0, 6), SkipRope.NONE);
        rope.ticks();
        check.due("always up", rope.jumper(0, 4), 3);
        rope.ticks();
        rope.ticks();
        check.due("always up, anew", rope.jumper(0, 4), 3);
    }

    private static void theRope() {
        SkipRope rope = Check.yard("e3;j3 1 2 60;j3 1 2 2;j3 1 2 2;j3 2 1 9;");
        check.due("bad now(-1)", rope.now(-1), SkipRope.BAD);
        check.due("bad now(7)", rope.now(7), SkipRope.BAD);
        check.due("bad now(MIN)", rope.now(Integer.MIN_VALUE), SkipRope.BAD);
        int[] round = {3, 2, 1, 3, 2, 1, 3, 2, 1};
        for (int t = 0; t < 9; t++) {
            check.due("now(0)", rope.now(0), t);
            check.due("now(1)", rope.now(1), 3);
            check.due("now(2)", rope.now(2), round[t]);
            check.due("now(3)", rope.now(3), 15);
            check.due("now(4)", rope.now(4), 9 - t);
            check.due("now(5)", rope.now(5), 6);
            check.due("now(6)", rope.now(6), t);
            rope.ticks();
        }
        check.due("one more, since somebody tripped", rope.now(2), 4);
        check.due("who is in yet", rope.now(3), 9);
        check.due("first of the others", rope.now(4), 4);
        check.due("who", rope.now(5), 9);
        rope = Check.yard("j4 1 3 60;j4 1 2 60;");
        check.due("who, asked first of all", rope.now(5), 2);
        rope = Check.yard("e3;j3 1 2 60;");
        check.due("far, none", rope.now(4), SkipRope.NONE);
        check.due("far, nobody", rope.now(5), 0);
        check.due("far, no trip", rope.jumper(0, 6), SkipRope.NONE);
        rope = Check.yard("e3;j3 1 2 39;");
        check.due("behind 120", rope.now(4), 120);
        check.due("behind 120, who", rope.now(5), 1);
        check.due("behind 120, trip", rope.jumper(0, 6), 120);
        rope = Check.yard("e3;j3 1 2 40;");
        check.due("behind 123", rope.now(4), SkipRope.NONE);
        check.due("behind 123, trip", rope.jumper(0, 6), SkipRope.NONE);
        Check.ticks(rope, 3);
        check.due("behind 120 now", rope.jumper(0, 6), 120);
    }

    private static void counts() {
        SkipRope rope = Check.yard("j2 1 0 1;j2 1 0 1;");
        rope.sees(1, 0, 0);
        Check.type(rope, "abc");
        check.due("count(0)", rope.count(0), 2);
        check.due("count(1)", rope.count(1), 1);
        check.due("count(2)", rope.count(2), 3);
        check.due("count(-1)", rope.count(-1), SkipRope.BAD);
        check.due("count(3)", rope.count(3), SkipRope.BAD);
        rope.goes(0);
        check.due("count(0), one is out", rope.count(0), 2);
    }
}
