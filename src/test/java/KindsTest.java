/** Promises 20 to 24: rate, keep, back, count, trace. */
public final class KindsTest {
    private static final Check check = new Check();

    public static void main(String[] args) {
        theRates();
        theTrace();
        belowNothing();
        wrongRates();
        theImages();
        anImageIsTakenAnew();
        anImageKeepsNothingElse();
        wrongImages();
        check.end();
    }

    private static SkipRope two() {
        SkipRope rope = Check.yard("e6;j5 3 1 20;j4 2 0 9;");
        Check.ticks(rope, 2);
        return rope;
    }

    private static void theRates() {
        SkipRope rope = two();
        int[] first = {19, 22, 15, 44, 15, 21};
        int[] second = {8, 10, 4, 20, 5, 10};
        for (int kind = 0; kind < 6; kind++) {
            check.due("rate(" + kind + ", 0)", rope.rate(kind, 0), first[kind]);
            check.due("rate(" + kind + ", 1)", rope.rate(kind, 1), second[kind]);
        }
        rope.goes(1);
        for (int kind = 0; kind < 6; kind++) {
            check.due("out: rate(" + kind + ", 1)", rope.rate(kind, 1), second[kind]);
        }
    }

    private static void theTrace() {
        SkipRope rope = two();
        long[] more = {1, 11, 101, 1011, 10101, 100001};
        long trace = 0;
        check.due("trace, at first", rope.trace(), 0);
        for (int turn = 0; turn < 3; turn++) {
            for (int kind = 0; kind < 6; kind++) {
                rope.rate(kind, turn % 2);
                trace += more[kind];
                check.due("trace behind rate(" + kind + ", ..)", rope.trace(), trace);
            }
        }
        rope.ticks();
        rope.undo();
        rope.keep(0);
        rope.back(0);
        rope.clear();
        check.due("trace, nothing else adds to it", rope.trace(), trace);
        check.due("trace, each object its own", new SkipRope().trace(), 0);
    }

    private static void belowNothing() {
        SkipRope rope = Check.yard("e9;j2 1 8 8;j2 1 0 1;");
        check.due("HOPPER, -1 is no refusal", rope.rate(2, 0), -1);
        check.due("HOPPER below 0", rope.rate(2, 1), -8);
        check.due("PEPPER below 0", rope.rate(4, 1), -7);
    }

    private static void wrongRates() {
        SkipRope rope = two();
        int[] wrong = {-1, 6, Integer.MIN_VALUE, Integer.MAX_VALUE};
        for (int w : wrong) {
            check.due("rate(" + w + ", 0)", rope.rate(w, 0), SkipRope.NO);
            check.due("rate(0, " + w + ")", rope.rate(0, w), SkipRope.NO);
        }
        check.due("rate(0, 2)", rope.rate(0, 2), SkipRope.NO);
        check.due("trace, refused ones add nothing", rope.trace(), 0);
    }

    private static void theImages() {
        SkipRope rope = Check.yard("e3;j2 1 0 9;j3 2 1 2;j5 4 2 60;j2 2 0 60;");
        Check.ticks(rope, 2);
        check.due("keep(0)", rope.keep(0), 2);
        java.util.List<Long> then = Check.all(rope);
        Check.ticks(rope, 4);
        rope.speeds(9);
        check.due("keep(1)", rope.keep(1), 6);
        Check.ticks(rope, 5);
        rope.comes(0, 1);
        check.due("back(0)", rope.back(0), 2);
        check.due("nothing can be undone", rope.now(6), 0);
        check.due("undo", rope.undo(), SkipRope.STATE);
        java.util.List<Long> again = Check.all(rope);
        // That two could be undone then is no part of the image: now(6) stands first of the last seven answers.
        int undone = 6 * 7;
        check.due("could be undone then", then.get(undone), 2);
        then.set(undone, 0L);
        check.holds("all as the image has it", then.equals(again));
        check.due("back(1)", rope.back(1), 6);
        check.due("every", rope.now(1), 9);
        check.due("back(0) again", rope.back(0), 2);
        check.due("every", rope.now(1), 3);
        rope.ticks();
        check.due("the image is not what goes on", rope.back(0), 2);
        check.due("tick", rope.now(0), 2);
    }

    private static void anImageIsTakenAnew() {
        SkipRope rope = two();
        rope.keep(0);
        rope.ticks();
        check.due("keep(0) anew", rope.keep(0), 3);
        check.due("keep is not to be undone", rope.now(6), 3);
        rope.ticks();
        check.due("back(0)", rope.back(0), 3);
        check.due("back(1), none", rope.back(1), SkipRope.STATE);
    }

    private static void anImageKeepsNothingElse() {
        SkipRope rope = two();
        rope.sees(1, 1, 1);
        rope.keep(1);
        rope.sees(1, 2, 0);
        rope.rate(0, 0);
        Check.type(rope, "e2");
        rope.back(1);
        check.due("seen", rope.count(1), 2);
        check.due("trace", rope.trace(), 1);
        check.due("letters", rope.count(2), 2);
        check.due("jumpers", rope.count(0), 2);
    }

    private static void wrongImages() {
        SkipRope rope = two();
        int[] wrong = {-1, 2, Integer.MIN_VALUE, Integer.MAX_VALUE};
        for (int w : wrong) {
            check.due("keep(" + w + ")", rope.keep(w), SkipRope.BAD);
            check.due("back(" + w + ")", rope.back(w), SkipRope.BAD);
        }
        check.due("back(0), none kept", rope.back(0), SkipRope.STATE);
        check.due("a refused back loses nothing", rope.now(6), 2);
        check.due("undo", rope.undo(), 1);
    }
}
