/** Promises 7 to 11: ticks, speeds, goes, comes, undo. */
public final class DoneTest {
    private static final Check check = new Check();

    public static void main(String[] args) {
        aTick();
        theRopeWaitsOneMore();
        windEnds();
        turned();
        turnedAtTheEdge();
        goingOut();
        goingOutInTheAir();
        comingIn();
        undone();
        tenAreKnown();
        refusedIsNotUndone();
        undoneBringsAllBack();
        check.end();
    }

    private static void aTick() {
        // The rope comes in tick 3: he of START 3 jumps first, so he is up; he of HANG 1 and START 2 is not.
        SkipRope rope = Check.yard("j4 1 3 9;j4 1 2 9;j4 2 2 9;");
        for (int t = 0; t < 3; t++) {
            check.due("tick " + t, rope.ticks(), 0);
            check.due("number", rope.now(0), t + 1);
        }
        check.due("tick 3", rope.ticks(), 2);
        check.due("who is in", rope.now(3), 5);
        check.due("number", rope.now(0), 4);
    }

    private static void theRopeWaitsOneMore() {
        SkipRope rope = Check.yard("e2;j2 2 0 60;j12 1 11 1;j12 1 1 1;");
        check.due("tick 0", rope.ticks(), 0);
        check.due("tick 1", rope.ticks(), 2);
        check.due("one more", rope.now(2), 3);
        check.due("tick 2", rope.ticks(), 0);
        check.due("tick 3, not yet", rope.ticks(), 0);
        check.due("tick 4", rope.ticks(), 4);
        check.due("one more again", rope.now(2), 3);
        Check.ticks(rope, 3);
        check.due("nobody tripped: not one more", rope.now(2), 2);
        check.due("he is in", rope.now(3), 1);
    }

    private static void windEnds() {
        SkipRope rope = Check.yard("e2;j2 1 1 2;");
        int[] trips = {0, 0, 0, 0, 0, 1, 0, 0, 0};
        int[] wind = {2, 1, 1, 0, 0, 0, 0, 0, 0};
        for (int t = 0; t < trips.length; t++) {
            check.due("tick " + t, rope.ticks(), trips[t]);
            check.due("wind behind tick " + t, rope.jumper(0, 2), wind[t]);
        }
    }

    private static void turned() {
        SkipRope rope = Check.yard("e6;j2 2 0 60;");
        check.due("speeds(1)", rope.speeds(1), SkipRope.BAD);
        check.due("speeds(10)", rope.speeds(10), SkipRope.BAD);
        check.due("speeds(MIN)", rope.speeds(Integer.MIN_VALUE), SkipRope.BAD);
        check.due("speeds(6)", rope.speeds(6), SkipRope.STATE);
        check.due("nothing to undo", rope.now(6), 0);
        check.due("speeds(4)", rope.speeds(4), 6);
        check.due("sooner", rope.now(2), 4);
        check.due("speeds(9)", rope.speeds(9), 4);
        check.due("not later", rope.now(2), 4);
        Check.ticks(rope, 4);
        check.due("from then on", rope.now(2), 9);
        check.due("speeds(2)", rope.speeds(2), 9);
        check.due("in two", rope.now(2), 2);
        rope.ticks();
        check.due("in the next one", rope.now(2), 1);
        check.due("speeds(3)", rope.speeds(3), 2);
        check.due("in the next one yet", rope.now(2), 1);
    }

    private static void turnedAtTheEdge() {
        SkipRope rope = Check.yard("e3;j3 1 0 9;");
        Check.ticks(rope, 3);
        check.due("one more than EVERY", rope.now(2), 4);
        check.due("speeds(4)", rope.speeds(4), 3);
        check.due("as many: as it was", rope.now(2), 4);
        check.due("speeds(3)", rope.speeds(3), 4);
        check.due("fewer", rope.now(2), 3);
    }

    private static void goingOut() {
        SkipRope rope = Check.yard("j4 1 3 9;j4 1 3 9;j4 1 3 9;");
        check.due("goes(-1)", rope.goes(-1), SkipRope.BAD);
        check.due("goes(3)", rope.goes(3), SkipRope.BAD);
        check.due("goes(MAX)", rope.goes(Integer.MAX_VALUE), SkipRope.BAD);
        check.due("goes(1)", rope.goes(1), 2);
        check.due("who is in", rope.now(3), 5);
        check.due("goes(1) again", rope.goes(1), SkipRope.STATE);
        check.due("out: not due", rope.jumper(1, 5), SkipRope.NONE);
        check.due("out: no trip", rope.jumper(1, 6), SkipRope.NONE);
        check.due("out: not in", rope.jumper(1, 3), 0);
        Check.ticks(rope, 4);
        check.due("who is out does not jump", rope.jumper(1, 2), 9);
        check.due("who is in does", rope.jumper(0, 2), 8);
        check.due("goes(0)", rope.goes(0), 1);
        check.due("goes(2)", rope.goes(2), 0);
        check.due("nobody is in", rope.now(3), 0);
        check.due("nobody can trip", rope.now(4), SkipRope.NONE);
        Check.ticks(rope, 3);
        check.due("nobody trips", rope.ticks(), 0);
        check.due("so not one more", rope.now(2), 4);
    }

    private static void goingOutInTheAir() {
        SkipRope rope = Check.yard("j8 4 0 9;");
        rope.ticks();
        rope.goes(0);
        check.due("up yet", rope.jumper(0, 4), 3);
        rope.ticks();
        check.due("coming down", rope.jumper(0, 4), 2);
        check.due("comes(0, 3)", rope.comes(0, 3), 1);
        check.due("not up any more", rope.jumper(0, 4), 0);
        rope.ticks();
        check.due("the rope finds him", rope.ticks(), 1);
    }

    private static void comingIn() {
        SkipRope rope = Check.yard("j4 1 3 9;j12 1 11 9;");
        check.due("comes(-1, 0)", rope.comes(-1, 0), SkipRope.BAD);
        check.due("comes(2, 0)", rope.comes(2, 0), SkipRope.BAD);
        check.due("comes(0, -1)", rope.comes(0, -1), SkipRope.BAD);
        check.due("comes(0, 12)", rope.comes(0, 12), SkipRope.BAD);
        check.due("comes(0, 0), in", rope.comes(0, 0), SkipRope.STATE);
        Check.ticks(rope, 4);
        check.due("one is out", rope.now(3), 1);
        check.due("bad ahead of state", rope.comes(0, 12), SkipRope.BAD);
        check.due("comes(1, 11)", rope.comes(1, 11), 2);
        check.due("who is in", rope.now(3), 3);
        check.due("due", rope.jumper(1, 5), 11);
        check.due("due, who was in", rope.jumper(0, 5), 3);
        check.due("goes", rope.goes(1), 1);
        check.due("comes(1, 0)", rope.comes(1, 0), 2);
        check.due("due in the next", rope.jumper(1, 5), 0);
        check.due("wind as it was", rope.jumper(1, 2), 9);
        rope.ticks();
        check.due("he jumps", rope.jumper(1, 2), 8);
        check.due("and is due by his period", rope.jumper(1, 5), 11);
    }

    private static void undone() {
        SkipRope rope = Check.yard("e6;j4 1 3 9;");
        check.due("undo, none", rope.undo(), SkipRope.STATE);
        rope.ticks();
        rope.speeds(3);
        rope.goes(0);
        rope.comes(0, 7);
        check.due("four", rope.now(6), 4);
        check.due("undo comes", rope.undo(), 3);
        check.due("he is out", rope.now(3), 0);
        check.due("undo goes", rope.undo(), 2);
        check.due("he is in", rope.now(3), 1);
        check.due("due as he was", rope.jumper(0, 5), 2);
        check.due("undo speeds", rope.undo(), 1);
        check.due("every", rope.now(1), 6);
        check.due("round", rope.now(2), 5);
        check.due("undo ticks", rope.undo(), 0);
        check.due("tick", rope.now(0), 0);
        check.due("round", rope.now(2), 6);
        check.due("undo, none", rope.undo(), SkipRope.STATE);
        check.due("a tick again", rope.ticks(), 0);
        check.due("one", rope.now(6), 1);
    }

    private static void tenAreKnown() {
        SkipRope rope = Check.yard("j4 1 3 60;");
        for (int t = 1; t <= 25; t++) {
            rope.ticks();
            check.due("known", rope.now(6), Math.min(t, 10));
        }
        for (int left = 9; left >= 0; left--) {
            check.due("undo", rope.undo(), left);
            check.due("tick", rope.now(0), 15 + left);
        }
        check.due("the eleventh is lost", rope.undo(), SkipRope.STATE);
        check.due("tick", rope.now(0), 15);
        Check.ticks(rope, 3);
        check.due("undo anew", rope.undo(), 2);
        check.due("tick", rope.now(0), 17);
    }

    private static void refusedIsNotUndone() {
        SkipRope rope = Check.yard("j4 1 3 60;");
        rope.ticks();
        rope.speeds(4);
        rope.speeds(11);
        rope.goes(5);
        rope.comes(0, 3);
        rope.comes(0, 33);
        rope.keep(0);
        rope.sees(1, 1, 1);
        rope.forget();
        rope.rate(0, 0);
        rope.stay(9);
        rope.pace(9);
        rope.entry(0);
        rope.odds(3, 9, 0);
        check.due("only the tick is known", rope.now(6), 1);
        check.due("undo", rope.undo(), 0);
        check.due("the tick is undone", rope.now(0), 0);
    }

    /** The first n of ten calls of all four sorts. */
    private static SkipRope done(int n) {
        SkipRope rope = Check.yard("e3;j2 1 0 9;j3 2 1 2;j5 4 2 60;j2 2 0 60;");
        for (int t = 0; t < n; t++) {
            if (t == 4) {
                rope.speeds(2);
            } else if (t == 7) {
                rope.goes(3);
            } else if (t == 8) {
                rope.comes(0, 1);
            } else {
                rope.ticks();
            }
        }
        return rope;
    }

    private static void undoneBringsAllBack() {
        for (int n = 0; n <= 10; n++) {
            SkipRope rope = done(10);
            for (int i = n; i < 10; i++) {
                rope.undo();
            }
            check.holds("all is back as it was behind call " + n, Check.all(rope).equals(Check.all(done(n))));
        }
    }
}
