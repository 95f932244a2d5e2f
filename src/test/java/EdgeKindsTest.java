/** Promises 20 to 22 and 24: a test of its own for each sentence of the document that names a boundary. */
public final class EdgeKindsTest {
    private static final Check check = new Check();
    private static final int[] FAR_OFF = {Integer.MIN_VALUE, Integer.MAX_VALUE};
    private static final int[] ADDED = {1, 11, 101, 1011, 10101, 100001};

    public static void main(String[] args) {
        aKindIsFrom0To5();
        whoIsRated();
        noIsNotBelowWhatARateMayBe();
        theGreatestRates();
        theSmallestRates();
        whoIsOutIsRatedToo();
        theTraceIs0AtFirst();
        eachBodyOnce();
        aRefusedRateAddsNothing();
        nothingTakesFromTheTrace();
        theTraceOf512Calls();
        anImageIs0Or1();
        noneWasKept();
        keepTellsTheTick();
        twoImagesAreApart();
        anImageIsKeptAnew();
        anImageIsAsItWasKept();
        allOfThatBecomesAsItWas();
        nothingElseIsKept();
        nothingCanBeUndoneBehindBack();
        imagesAreGoneWhenReadAnew();
        imagesStayWhenAFaultIsRead();
        check.end();
    }

    // ---- promise 20

    /** "KINDS .. 0 JUMPER; 1 BOUNCER, 2 HOPPER, 5 DOUBLE .. 3 CROSS .. 4 PEPPER", "NO: BAD" */
    private static void aKindIsFrom0To5() {
        SkipRope rope = Check.yard("e4;j4 2 3 20;");
        int[] due = {20, 22, 16, 44, 16, 20};
        for (int kind = -5; kind <= 10; kind++) {
            boolean stands = kind >= 0 && kind <= 5;
            check.due("rate(" + kind + ", 0)", rope.rate(kind, 0), stands ? due[kind] : SkipRope.NO);
        }
        for (int kind : FAR_OFF) {
            check.due("rate(" + kind + ", 0)", rope.rate(kind, 0), SkipRope.NO);
        }
    }

    private static void whoIsRated() {
        for (int n = 0; n <= 6; n++) {
            SkipRope rope = Check.yard("j4 2 3 20;".repeat(n));
            for (int kind = 0; kind <= 5; kind++) {
                check.due(n + " there: rate(" + kind + ", -1)", rope.rate(kind, -1), SkipRope.NO);
                check.due(n + " there: rate(" + kind + ", " + n + ")", rope.rate(kind, n), SkipRope.NO);
                for (int j : FAR_OFF) {
                    check.due(n + " there: rate(" + kind + ", " + j + ")", rope.rate(kind, j), SkipRope.NO);
                }
            }
            check.due("the last of " + n, rope.rate(0, n - 1), n == 0 ? SkipRope.NO : 20);
        }
        check.due("wrong in both", new SkipRope().rate(6, 6), SkipRope.NO);
    }

    /** "NO = -1000000: What is BAD, where a number may be below 0": a RATE of -1, -2, -3, -9 is none of the refusals. */
    private static void noIsNotBelowWhatARateMayBe() {
        for (int wind = 1; wind <= 9; wind++) {
            SkipRope rope = Check.yard("e9;j2 1 8 " + wind + ";");
            check.due("HOPPER, wind " + wind, rope.rate(2, 0), wind - 9);
            check.due("PEPPER, wind " + wind, rope.rate(4, 0), wind - 9);
        }
    }

    private static void theGreatestRates() {
        SkipRope rope = Check.yard("e2;" + "j12 4 11 60;".repeat(6));
        rope.ticks();
        check.due("the rope comes in the next one", rope.now(2), 1);
        int[] due = {60, 64, 59, 128, 64, 61};
        for (int kind = 0; kind <= 5; kind++) {
            check.due("rate(" + kind + ", 5)", rope.rate(kind, 5), due[kind]);
        }
    }

    /** No WIND, and the rope in 10 ticks. */
    private static void theSmallestRates() {
        SkipRope rope = Check.yard("e9;j12 1 0 1;");
        Check.ticks(rope, 9);
        check.due("the rope waits one more", rope.now(2), 10);
        int[] due = {0, 1, -10, 2, -10, 9};
        for (int kind = 0; kind <= 5; kind++) {
            check.due("rate(" + kind + ", 0)", rope.rate(kind, 0), due[kind]);
        }
        check.due("DOUBLE in the tick 0", Check.yard("j2 1 0 1;").rate(5, 0), 1);
    }

    private static void whoIsOutIsRatedToo() {
        SkipRope rope = Check.yard("e4;j4 2 3 20;");
        rope.goes(0);
        int[] due = {20, 22, 16, 44, 16, 20};
        for (int kind = 0; kind <= 5; kind++) {
            check.due("out: rate(" + kind + ", 0)", rope.rate(kind, 0), due[kind]);
        }
    }

    // ---- promise 24

    /** "THE TRACE, 0 at first" */
    private static void theTraceIs0AtFirst() {
        SkipRope rope = new SkipRope();
        check.due("new: trace", rope.trace(), 0);
        rope = Check.yard("j4 2 3 20;");
        Check.ticks(rope, 5);
        check.due("no rate was asked", rope.trace(), 0);
    }

    /** "as often as rate() asks that body: each once" */
    private static void eachBodyOnce() {
        for (int kind = 0; kind <= 5; kind++) {
            SkipRope rope = Check.yard("j4 2 3 20;");
            for (int n = 1; n <= 3; n++) {
                rope.rate(kind, 0);
                check.due("rate(" + kind + ", 0), " + n + " times", rope.trace(), (long) n * ADDED[kind]);
            }
            check.due("trace() adds nothing", rope.trace(), 3L * ADDED[kind]);
        }
    }

    private static void aRefusedRateAddsNothing() {
        SkipRope rope = Check.yard("j4 2 3 20;");
        for (int kind = 0; kind <= 5; kind++) {
            rope.rate(kind, 1);
            rope.rate(kind, -1);
        }
        rope.rate(6, 0);
        rope.rate(-1, 0);
        check.due("trace", rope.trace(), 0);
        check.due("no jumpers", new SkipRope().rate(0, 0), SkipRope.NO);
    }

    /** It is no part of what is UNDONE, nor of an IMAGE; THE TEXT read anew is not said to change it. */
    private static void nothingTakesFromTheTrace() {
        SkipRope rope = Check.yard("j4 2 3 20;");
        rope.keep(0);
        rope.ticks();
        rope.rate(5, 0);
        rope.undo();
        check.due("behind undo", rope.trace(), 100001);
        rope.back(0);
        check.due("behind back", rope.trace(), 100001);
        rope.forget();
        rope.clear();
        rope.yard();
        check.due("behind yard", rope.trace(), 100001);
    }

    private static void theTraceOf512Calls() {
        SkipRope rope = Check.yard("j2 1 0 1;");
        for (int n = 0; n < 501; n++) {
            rope.rate(5, 0);
        }
        check.due("trace", rope.trace(), 501L * 100001);
    }

    // ---- promises 21 and 22

    /** "IMAGES 0, 1", "BAD" */
    private static void anImageIs0Or1() {
        SkipRope rope = new SkipRope();
        int[] wrong = {-2, -1, 2, 3, Integer.MIN_VALUE, Integer.MAX_VALUE};
        for (int image : wrong) {
            check.due("keep(" + image + ")", rope.keep(image), SkipRope.BAD);
            check.due("back(" + image + ")", rope.back(image), SkipRope.BAD);
        }
        for (int image = 0; image <= 1; image++) {
            check.due("back(" + image + ") ahead of keep", rope.back(image), SkipRope.STATE);
            check.due("keep(" + image + ")", rope.keep(image), 0);
            check.due("back(" + image + ")", rope.back(image), 0);
        }
    }

    /** "STATE: none was kept." */
    private static void noneWasKept() {
        for (int image = 0; image <= 1; image++) {
            SkipRope rope = Check.yard("j4 1 3 9;");
            rope.ticks();
            rope.keep(1 - image);
            rope.ticks();
            check.due("back(" + image + "), the other one was kept", rope.back(image), SkipRope.STATE);
            check.due("a refused back changes no tick", rope.now(0), 2);
            check.due("and what can be undone stays", rope.now(6), 2);
            check.due("undo", rope.undo(), 1);
        }
    }

    /** "An IMAGE is kept: TICK." */
    private static void keepTellsTheTick() {
        SkipRope rope = new SkipRope();
        for (int t = 0; t <= 20; t++) {
            check.due("keep, tick " + t, rope.keep(t % 2), t);
            rope.ticks();
        }
        check.due("back(0)", rope.back(0), 20);
        check.due("back(1)", rope.back(1), 19);
        check.due("keep is not to be undone", rope.now(6), 0);
    }

    private static void twoImagesAreApart() {
        SkipRope rope = Check.yard("e5;j12 4 0 9;");
        rope.keep(0);
        rope.ticks();
        rope.speeds(3);
        rope.keep(1);
        check.due("back(0)", rope.back(0), 0);
        check.due("EVERY", rope.now(1), 5);
        check.due("up", rope.jumper(0, 4), 0);
        check.due("back(1)", rope.back(1), 1);
        check.due("EVERY", rope.now(1), 3);
        check.due("up", rope.jumper(0, 4), 3);
        check.due("back(0) again", rope.back(0), 0);
        check.due("EVERY", rope.now(1), 5);
    }

    private static void anImageIsKeptAnew() {
        SkipRope rope = new SkipRope();
        rope.keep(0);
        Check.ticks(rope, 3);
        check.due("keep(0) anew", rope.keep(0), 3);
        Check.ticks(rope, 3);
        check.due("back(0)", rope.back(0), 3);
        rope.undo();
        check.due("tick", rope.now(0), 3);
    }

    /** What is done behind keep() and behind back() does not change the IMAGE. */
    private static void anImageIsAsItWasKept() {
        SkipRope rope = Check.yard("e3;j2 1 0 9;j3 2 1 2;");
        rope.keep(0);
        for (int turn = 0; turn < 3; turn++) {
            rope.goes(turn % 2);
            Check.ticks(rope, 4);
            rope.speeds(9);
            rope.comes(turn % 2, 11);
            check.due("back(0)", rope.back(0), 0);
            check.holds("all as it was kept", Check.all(rope).equals(Check.all(Check.yard("e3;j2 1 0 9;j3 2 1 2;"))));
        }
    }

    /** "All of that": "TICK, EVERY, when THE ROPE comes round, who is IN, UP, due, WINDS" */
    private static void allOfThatBecomesAsItWas() {
        SkipRope rope = Check.yard("e6;j5 4 1 9;j4 2 0 9;j12 1 11 9;");
        Check.ticks(rope, 2);
        rope.goes(2);
        rope.speeds(8);
        rope.keep(1);
        Check.ticks(rope, 7);
        rope.goes(0);
        rope.comes(2, 4);
        rope.speeds(2);
        check.due("back(1)", rope.back(1), 2);
        check.due("TICK", rope.now(0), 2);
        check.due("EVERY", rope.now(1), 8);
        check.due("when the rope comes round", rope.now(2), 4);
        check.due("who is in", rope.now(3), 3);
        int[] up = {3, 0, 0};
        int[] due = {4, 2, SkipRope.NONE};
        int[] wind = {8, 8, 9};
        for (int j = 0; j < 3; j++) {
            check.due("up, " + j, rope.jumper(j, 4), up[j]);
            check.due("due, " + j, rope.jumper(j, 5), due[j]);
            check.due("wind, " + j, rope.jumper(j, 2), wind[j]);
        }
    }

    /** "nothing else" */
    private static void nothingElseIsKept() {
        SkipRope rope = Check.yard("j4 1 3 9;");
        rope.keep(0);
        rope.sees(1, 0, 1);
        rope.type('x');
        rope.rate(0, 0);
        rope.back(0);
        check.due("seen", rope.count(1), 1);
        check.due("letters", rope.count(2), 1);
        check.due("trace", rope.trace(), 1);
        check.due("the other image", rope.back(1), SkipRope.STATE);
    }

    /** "(nothing can be UNDONE behind back())" */
    private static void nothingCanBeUndoneBehindBack() {
        SkipRope rope = new SkipRope();
        Check.ticks(rope, 12);
        rope.keep(0);
        check.due("ten, behind keep yet", rope.now(6), 10);
        rope.back(0);
        check.due("none", rope.now(6), 0);
        check.due("undo", rope.undo(), SkipRope.STATE);
        check.due("tick", rope.now(0), 12);
        rope.ticks();
        check.due("what is done from then on", rope.undo(), 0);
        check.due("and no more", rope.undo(), SkipRope.STATE);
        check.due("tick", rope.now(0), 12);
    }

    /** "IMAGES are gone" */
    private static void imagesAreGoneWhenReadAnew() {
        SkipRope rope = new SkipRope();
        rope.keep(0);
        rope.keep(1);
        check.due("yard of nothing", rope.yard(), 0);
        check.due("back(0)", rope.back(0), SkipRope.STATE);
        check.due("back(1)", rope.back(1), SkipRope.STATE);
        rope.keep(1);
        check.due("kept anew", rope.back(1), 0);
        check.due("the other one is gone yet", rope.back(0), SkipRope.STATE);
    }

    /** "-10 less FAULT: nothing changes." */
    private static void imagesStayWhenAFaultIsRead() {
        SkipRope rope = new SkipRope();
        rope.ticks();
        rope.keep(0);
        rope.ticks();
        rope.type('x');
        check.due("yard", rope.yard(), -10);
        check.due("back(0)", rope.back(0), 1);
    }
}
