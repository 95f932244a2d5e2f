/** Promises 16 to 19: a test of its own for each sentence of the document that names a boundary. */
public final class EdgeSeenTest {
    private static final Check check = new Check();
    private static final int[] FAR_OFF = {Integer.MIN_VALUE, Integer.MAX_VALUE};

    public static void main(String[] args) {
        aHangIsFrom1To4();
        aTickSeenIsFrom0To40();
        upIs1OrNot0();
        sixAreSeenAtMost();
        badIsAheadOfFull();
        theSameTwiceCountsTwice();
        forgetTellsHowMuchThereWas();
        sixAreSeenAnew();
        whatIsAskedOfWays();
        theLeastAndTheGreatestWay();
        allWaysAndNone();
        notUpAheadOfTheStart();
        upInTheTicksOfAHang();
        aHangLongerThanThePeriod();
        theFirstAndTheLastTickSeen();
        lookForAHangFrom1To4();
        oneCanBeAtMost();
        twoCanBe();
        ofSeveralTicksTheLeast();
        theFirstAndTheLastTickToLook();
        noTickPartsThem();
        jumpersHaveNoPartInIt();
        check.end();
    }

    private static SkipRope seen(int[]... all) {
        SkipRope rope = new SkipRope();
        for (int[] one : all) {
            if (rope.sees(one[0], one[1], one[2]) < 0) {
                System.out.println("what a test sees is refused");
                System.exit(1);
            }
        }
        return rope;
    }

    private static int[] up(int hang, int t) {
        return new int[] {hang, t, 1};
    }

    private static int[] not(int hang, int t) {
        return new int[] {hang, t, 0};
    }

    private static void ways(String what, SkipRope rope, int many, int first) {
        check.due(what + ": ways(0)", rope.ways(0), many);
        check.due(what + ": ways(1)", rope.ways(1), first);
    }

    // ---- promise 16

    /** "a HANG of h (1 .. 4)", "BAD" */
    private static void aHangIsFrom1To4() {
        for (int hang = -3; hang <= 8; hang++) {
            int due = hang >= 1 && hang <= 4 ? 1 : SkipRope.BAD;
            check.due("sees(" + hang + ", 0, 0)", new SkipRope().sees(hang, 0, 0), due);
        }
        for (int hang : FAR_OFF) {
            check.due("sees(" + hang + ", 0, 0)", new SkipRope().sees(hang, 0, 0), SkipRope.BAD);
        }
    }

    /** "the TICK numbered t (0 .. 40)", "BAD" */
    private static void aTickSeenIsFrom0To40() {
        for (int t = -3; t <= 45; t++) {
            int due = t >= 0 && t <= 40 ? 1 : SkipRope.BAD;
            check.due("sees(1, " + t + ", 0)", new SkipRope().sees(1, t, 0), due);
        }
        for (int t : FAR_OFF) {
            check.due("sees(1, " + t + ", 0)", new SkipRope().sees(1, t, 0), SkipRope.BAD);
        }
    }

    /** "was UP (1), or not (0)", "BAD" */
    private static void upIs1OrNot0() {
        for (int up = -3; up <= 4; up++) {
            int due = up == 0 || up == 1 ? 1 : SkipRope.BAD;
            check.due("sees(1, 0, " + up + ")", new SkipRope().sees(1, 0, up), due);
        }
        for (int up : FAR_OFF) {
            check.due("sees(1, 0, " + up + ")", new SkipRope().sees(1, 0, up), SkipRope.BAD);
        }
        ways("up in tick 0", seen(up(1, 0)), 11, 200);
        ways("not up in tick 0", seen(not(1, 0)), 121, 201);
    }

    /** "SEEN (6 at most)", "FULL" */
    private static void sixAreSeenAtMost() {
        SkipRope rope = new SkipRope();
        for (int n = 1; n <= 6; n++) {
            check.due("the sight " + n, rope.sees(1, 39 + n % 2, 0), n);
        }
        int many = rope.ways(0);
        check.due("the sight 7", rope.sees(1, 0, 1), SkipRope.FULL);
        check.due("the sight 7 again", rope.sees(4, 40, 0), SkipRope.FULL);
        check.due("seen", rope.count(1), 6);
        check.due("the refused ones are not seen", rope.ways(0), many);
    }

    /** "the first of these: BAD .., FULL" */
    private static void badIsAheadOfFull() {
        SkipRope rope = seen(not(1, 0), not(1, 0), not(1, 0), not(1, 0), not(1, 0), not(1, 0));
        check.due("sees(0, 0, 0), full", rope.sees(0, 0, 0), SkipRope.BAD);
        check.due("sees(5, 0, 0), full", rope.sees(5, 0, 0), SkipRope.BAD);
        check.due("sees(1, -1, 0), full", rope.sees(1, -1, 0), SkipRope.BAD);
        check.due("sees(1, 41, 0), full", rope.sees(1, 41, 0), SkipRope.BAD);
        check.due("sees(1, 0, -1), full", rope.sees(1, 0, -1), SkipRope.BAD);
        check.due("sees(1, 0, 2), full", rope.sees(1, 0, 2), SkipRope.BAD);
    }

    /** "how much there is" */
    private static void theSameTwiceCountsTwice() {
        SkipRope rope = seen(up(1, 0), up(1, 0));
        check.due("seen", rope.count(1), 2);
        ways("the same twice", rope, 11, 200);
    }

    // ---- promise 17

    /** "Nothing is SEEN: how much was." */
    private static void forgetTellsHowMuchThereWas() {
        for (int n = 0; n <= 6; n++) {
            SkipRope rope = new SkipRope();
            for (int i = 0; i < n; i++) {
                rope.sees(1, i, 1);
            }
            check.due("forget of " + n, rope.forget(), n);
            check.due("seen", rope.count(1), 0);
            check.due("forget of nothing", rope.forget(), 0);
            ways("forgotten", rope, 132, 200);
        }
    }

    /** A wrap-around: the room of what was forgotten is used again. */
    private static void sixAreSeenAnew() {
        SkipRope rope = seen(up(1, 0), up(1, 0), up(1, 0), up(1, 0), up(1, 0), up(1, 0));
        rope.forget();
        for (int n = 1; n <= 6; n++) {
            check.due("anew", rope.sees(1, 0, 0), n);
            ways("nothing of the old ones is left", rope, 121, 201);
        }
        check.due("full anew", rope.sees(1, 0, 0), SkipRope.FULL);
    }

    // ---- promise 18

    /** "how many (what = 0), the first (1; NONE). BAD." */
    private static void whatIsAskedOfWays() {
        SkipRope rope = new SkipRope();
        for (int what = -3; what <= 5; what++) {
            check.due("ways(" + what + ")", rope.ways(what), what == 0 ? 132 : what == 1 ? 200 : SkipRope.BAD);
        }
        for (int what : FAR_OFF) {
            check.due("ways(" + what + ")", rope.ways(what), SkipRope.BAD);
        }
    }

    /** "twos of PERIOD (2 .. 12) and START (0 .. 11)": each corner, alone. */
    private static void theLeastAndTheGreatestWay() {
        ways("PERIOD 2, START 0", seen(up(1, 0), up(1, 2)), 1, 200);
        ways("PERIOD 12, START 0", seen(up(1, 0), not(4, 5), not(4, 9), not(2, 11)), 1, 1200);
        ways("PERIOD 2, START 11", seen(not(4, 10), not(4, 6), not(3, 2), up(1, 11), up(1, 13)), 1, 211);
        ways("PERIOD 12, START 11", seen(not(4, 10), not(4, 6), not(3, 2), up(1, 23), not(3, 17)), 1, 1211);
        // A START of 12 or a PERIOD of 13 or 1 would do, but there is none.
        ways("START 12", seen(not(4, 11), not(4, 7), not(4, 3), up(1, 12)), 0, SkipRope.NONE);
        ways("PERIOD 13", seen(up(1, 0), not(4, 5), not(4, 9), not(3, 12), up(1, 13)), 0, SkipRope.NONE);
        ways("PERIOD 1", seen(up(1, 0), up(1, 1)), 0, SkipRope.NONE);
    }

    /** "how many", from 132 to none; "NONE" */
    private static void allWaysAndNone() {
        ways("nothing seen", new SkipRope(), 132, 200);
        ways("one", seen(up(1, 0), up(1, 3)), 1, 300);
        ways("none", seen(up(1, 0), not(1, 0)), 0, SkipRope.NONE);
        ways("none, by HANG", seen(up(1, 5), not(4, 5)), 0, SkipRope.NONE);
    }

    /** He is not UP ahead of his START, whatever his PERIOD. */
    private static void notUpAheadOfTheStart() {
        for (int start = 0; start <= 11; start++) {
            // With a HANG of 1 in the tick 0 none is up but he of START 0; later, those who are due by then.
            int due = 0;
            for (int period = 2; period <= 12; period++) {
                for (int first = 0; first <= start; first++) {
                    due += (start - first) % period == 0 ? 1 : 0;
                }
            }
            check.due("up in tick " + start, seen(up(1, start)).ways(0), due);
            check.due("not up in tick " + start, seen(not(1, start)).ways(0), 132 - due);
        }
    }

    /** "had he a HANG of h": the tick of the jump is the first, the tick h behind it is none. */
    private static void upInTheTicksOfAHang() {
        for (int hang = 1; hang <= 4; hang++) {
            // PERIOD 12 and START 0 alone, up in 0 .. h - 1 and from tick 12 on again.
            for (int t = 0; t <= 40; t++) {
                SkipRope rope = seen(up(1, 0), not(4, 5), not(4, 9), not(2, 11));
                rope.sees(hang, t, 1);
                check.due("hang " + hang + ", tick " + t, rope.ways(0), t % 12 < hang ? 1 : 0);
            }
        }
    }

    /** A HANG of PERIOD or more: he is UP from his START on. */
    private static void aHangLongerThanThePeriod() {
        for (int t = 0; t <= 40; t++) {
            SkipRope rope = seen(up(1, 0), up(1, 2));
            rope.sees(2, t, 1);
            rope.sees(3, t, 1);
            rope.sees(4, t, 1);
            ways("PERIOD 2, tick " + t, rope, 1, 200);
        }
    }

    private static void theFirstAndTheLastTickSeen() {
        ways("tick 0", seen(up(4, 0)), 11, 200);
        // Up in tick 40 by a jump of that tick: of START s those by which 40 - s can be parted.
        int many = 0;
        for (int period = 2; period <= 12; period++) {
            for (int start = 0; start <= 11; start++) {
                many += (40 - start) % period == 0 ? 1 : 0;
            }
        }
        ways("tick 40", seen(up(1, 40)), many, 200);
        ways("tick 40, START 0", seen(up(1, 0), up(1, 40)), 5, 200);
        ways("tick 40, START 0, not up", seen(up(1, 0), not(1, 40)), 6, 300);
    }

    // ---- promise 19

    /** "LOOK for a HANG", "BAD" */
    private static void lookForAHangFrom1To4() {
        int[] due = {11, 11, 15, 8};
        SkipRope rope = new SkipRope();
        for (int hang = -3; hang <= 8; hang++) {
            boolean stands = hang >= 1 && hang <= 4;
            check.due("look(" + hang + ")", rope.look(hang), stands ? due[hang - 1] : SkipRope.BAD);
        }
        for (int hang : FAR_OFF) {
            check.due("look(" + hang + ")", rope.look(hang), SkipRope.BAD);
        }
        rope = seen(up(1, 0), not(1, 0));
        check.due("look(0), and none can be", rope.look(0), SkipRope.BAD);
        check.due("look(5), and none can be", rope.look(5), SkipRope.BAD);
    }

    /** "NONE (one can be at most)" */
    private static void oneCanBeAtMost() {
        for (int hang = 1; hang <= 4; hang++) {
            check.due("one can be", seen(up(1, 0), up(1, 3)).look(hang), SkipRope.NONE);
            check.due("none can be", seen(up(1, 0), not(1, 0)).look(hang), SkipRope.NONE);
        }
    }

    private static void twoCanBe() {
        // PERIOD 6 and 12, START 0: they part in tick 6 first, and there for HANG ticks.
        SkipRope rope = seen(up(1, 0), up(1, 12), not(3, 4));
        ways("two", rope, 2, 600);
        for (int hang = 1; hang <= 4; hang++) {
            check.due("look(" + hang + ")", rope.look(hang), 6);
        }
    }

    /** "the greater part of these is smallest, of several the least" */
    private static void ofSeveralTicksTheLeast() {
        // PERIOD 3, 6 and 12, START 0: two to one in tick 3, in 6, in 9, ..
        SkipRope rope = seen(up(1, 0), up(1, 12), not(1, 4));
        ways("PERIOD 3, 6, 12", rope, 3, 300);
        check.due("look(1)", rope.look(1), 3);
        check.due("look(2)", rope.look(2), 3);
        // With a HANG of 3 he of PERIOD 3 is always up, so 3 and 6 are alike in 6; in 3 he is the only one.
        check.due("look(3)", rope.look(3), 3);
    }

    /** "the TICK t (0 .. 40)" */
    private static void theFirstAndTheLastTickToLook() {
        // PERIOD and START 2 1, 3 0, 5 0, 7 1: two and two in tick 0.
        SkipRope rope = seen(up(3, 1), up(1, 15));
        ways("four", rope, 4, 201);
        check.due("look(1)", rope.look(1), 0);
        // START 4 and PERIOD 7, 9, 11, 12: two and two in tick 40 alone.
        rope = seen(not(2, 35), up(1, 4), not(2, 21));
        ways("four", rope, 4, 704);
        check.due("look(1)", rope.look(1), 40);
    }

    /** More than one can be, so it is not NONE, though no tick parts them: all are alike, and 0 is the least. */
    private static void noTickPartsThem() {
        SkipRope rope = seen(up(1, 0), up(1, 12), up(4, 5));
        ways("PERIOD 2, 3, 4", rope, 3, 200);
        check.due("look(4): always up", rope.look(4), 0);
        check.due("look(3): he of PERIOD 4 is down in tick 3", rope.look(3), 3);
    }

    /** The unknown one is none of the JUMPERS: what they do changes nothing of it. */
    private static void jumpersHaveNoPartInIt() {
        SkipRope rope = Check.yard("e2;j2 1 0 1;");
        rope.sees(1, 0, 1);
        rope.ticks();
        rope.keep(0);
        rope.goes(0);
        rope.undo();
        rope.back(0);
        ways("up in tick 0", rope, 11, 200);
        check.due("seen", rope.count(1), 1);
    }
}
