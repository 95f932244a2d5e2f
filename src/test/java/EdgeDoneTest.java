/** Promises 7 to 11: a test of its own for each sentence of the document that names a boundary. */
public final class EdgeDoneTest {
    private static final Check check = new Check();
    private static final int[] FAR_OFF = {Integer.MIN_VALUE, Integer.MAX_VALUE};

    public static void main(String[] args) {
        theTickOfTheJumpIsTheFirst();
        heJumpsAheadOfTheRope();
        theLastWind();
        whoHasNoWindIsDueAsOften();
        nobodyTripsAndAllTrip();
        oneMoreIfSomebodyTripped();
        whoIsOutNeitherJumpsNorTrips();
        theTick999();
        everyIsFrom2To9();
        everyIsSo();
        theRopeInMoreTicksThanThat();
        turnedBehindATrip();
        turnedAheadOfTheNextTick();
        whoCanGo();
        heIsOut();
        theLastOneGoes();
        whoCanCome();
        dueFrom0To11();
        heIsIn();
        badIsAheadOfState();
        theSixthOneComes();
        whoComesIsNotUp();
        whoComesHasTheWindThatHeHad();
        nothingToBeUndone();
        tenAreKnown();
        theRingOfTenIsUsedAgain();
        eachOfTheFourIsUndone();
        whatIsRefusedIsNotUndone();
        whatIsAskedIsNotUndone();
        aTripIsUndone();
        nothingIsUndoneBehindYardAndBack();
        check.end();
    }

    // ---- promise 7

    /** "he is UP for HANG TICKS (this one is the first)": each HANG and START against the rope of tick 8. */
    private static void theTickOfTheJumpIsTheFirst() {
        for (int hang = 1; hang <= 4; hang++) {
            for (int start = 0; start <= 11; start++) {
                SkipRope rope = Check.yard("e9;j12 " + hang + " " + start + " 9;");
                Check.ticks(rope, 8);
                boolean up = start <= 8 && 8 < start + hang;
                check.due("hang " + hang + ", start " + start, rope.ticks(), up ? 0 : 1);
            }
        }
    }

    /** "first each who is IN, and due to jump in it .. jumps .. Then, if THE ROPE comes round in it" */
    private static void heJumpsAheadOfTheRope() {
        SkipRope rope = Check.yard("e2;j12 1 1 1;j12 1 0 1;j12 1 2 1;");
        check.due("tick 0", rope.ticks(), 0);
        check.due("tick 1: he of START 1 is up", rope.ticks(), 6);
    }

    /** "and has WIND left": 1 is enough, and 0 is not. */
    private static void theLastWind() {
        SkipRope rope = Check.yard("e2;j2 1 1 1;");
        check.due("tick 0", rope.ticks(), 0);
        check.due("tick 1, by the last wind", rope.ticks(), 0);
        check.due("none is left", rope.jumper(0, 2), 0);
        check.due("tick 2", rope.ticks(), 0);
        check.due("tick 3, no wind", rope.ticks(), 1);
        check.due("it does not go below 0", rope.jumper(0, 2), 0);
        rope = Check.yard("e2;j2 2 0 60;");
        Check.ticks(rope, 119);
        check.due("60 jumps are done", rope.jumper(0, 2), 0);
        check.due("tick 119, by the last of 60", rope.ticks(), 0);
        check.due("tick 120", rope.ticks(), 0);
        check.due("tick 121, no wind", rope.ticks(), 1);
    }

    /** "(who has no WIND left does not jump, but is due as often)" */
    private static void whoHasNoWindIsDueAsOften() {
        SkipRope rope = Check.yard("e9;j3 1 0 1;");
        int[] due = {0, 2, 1, 0, 2, 1, 0, 2};
        for (int t = 0; t < due.length; t++) {
            check.due("due, tick " + t, rope.jumper(0, 5), due[t]);
            check.due("wind, tick " + t, rope.jumper(0, 2), t == 0 ? 1 : 0);
            check.due("up, tick " + t, rope.jumper(0, 4), 0);
            check.due("tick " + t, rope.ticks(), 0);
        }
        check.due("tick 8", rope.ticks(), 1);
    }

    /** "who TRIPS (bits)": none to all of six. */
    private static void nobodyTripsAndAllTrip() {
        SkipRope rope = Check.yard("e2;" + "j12 1 11 9;".repeat(6));
        check.due("the rope does not come", rope.ticks(), 0);
        check.due("all six", rope.ticks(), 63);
        check.due("nobody is in", rope.now(3), 0);
        check.due("nobody is left", rope.ticks(), 0);
        for (int j = 0; j < 6; j++) {
            rope = Check.yard("e2;" + "j2 1 1 9;".repeat(j) + "j12 1 11 9;" + "j2 1 1 9;".repeat(5 - j));
            rope.ticks();
            check.due("the jumper " + j + " alone", rope.ticks(), 1 << j);
            check.due("the others are in", rope.now(3), 63 - (1 << j));
        }
    }

    /** "it comes round again EVERY TICKS behind that one, and one more, if somebody TRIPPED" */
    private static void oneMoreIfSomebodyTripped() {
        for (int every = 2; every <= 9; every++) {
            for (int tripping = 0; tripping <= 5; tripping++) {
                SkipRope rope = Check.yard("e" + every + ";j2 4 0 60;" + "j12 1 11 9;".repeat(tripping));
                Check.ticks(rope, every);
                check.due("e" + every + ", " + tripping + " tripped", rope.now(2), every + (tripping > 0 ? 1 : 0));
                check.due("he is in", rope.now(3), 1);
                Check.ticks(rope, every + (tripping > 0 ? 1 : 0));
                check.due("e" + every + ", nobody tripped", rope.now(2), every);
            }
        }
    }

    /** "each who is IN", by the jump as by the rope. */
    private static void whoIsOutNeitherJumpsNorTrips() {
        SkipRope rope = Check.yard("e2;j2 1 0 9;");
        rope.goes(0);
        for (int t = 0; t < 6; t++) {
            check.due("tick " + t, rope.ticks(), 0);
        }
        check.due("wind", rope.jumper(0, 2), 9);
        check.due("the rope goes on", rope.now(2), 2);
    }

    /** "(999 at most)", "STATE: it is 999": told of, though beyond the 512 calls of an object. */
    private static void theTick999() {
        SkipRope rope = Check.yard("j4 1 3 1;");
        Check.ticks(rope, 998);
        check.due("998", rope.now(0), 998);
        check.due("the last tick", rope.ticks(), 0);
        int round = rope.now(2);
        check.due("one more is refused", rope.ticks(), SkipRope.STATE);
        check.due("and again", rope.ticks(), SkipRope.STATE);
        check.due("999", rope.now(0), 999);
        check.due("the rope has not moved", rope.now(2), round);
        check.due("what may be undone", rope.now(6), 10);
        check.due("undone", rope.undo(), 9);
        check.due("998 again", rope.now(0), 998);
        check.due("the last tick again", rope.ticks(), 0);
        check.due("refused again", rope.ticks(), SkipRope.STATE);
    }

    // ---- promise 8

    /** "BAD": EVERY is 2 .. 9. */
    private static void everyIsFrom2To9() {
        for (int every = -20; every <= 20; every++) {
            boolean stands = every >= 2 && every <= 9;
            SkipRope rope = Check.yard(every == 5 ? "e6;" : "e5;");
            int before = rope.now(1);
            check.due("speeds(" + every + ")", rope.speeds(every), stands ? before : SkipRope.BAD);
            check.due("EVERY behind speeds(" + every + ")", rope.now(1), stands ? every : before);
        }
        for (int every : FAR_OFF) {
            check.due("speeds(" + every + ")", new SkipRope().speeds(every), SkipRope.BAD);
        }
    }

    /** "STATE: it is so." */
    private static void everyIsSo() {
        for (int every = 2; every <= 9; every++) {
            SkipRope rope = Check.yard("e" + every + ";j12 1 11 9;");
            check.due("speeds(" + every + "), so it is", rope.speeds(every), SkipRope.STATE);
            check.due("nothing to be undone", rope.now(6), 0);
            Check.ticks(rope, every);
            check.due("speeds(" + every + ") behind a trip", rope.speeds(every), SkipRope.STATE);
            check.due("the rope waits one more yet", rope.now(2), every + 1);
        }
        check.due("speeds(4), at first", new SkipRope().speeds(4), SkipRope.STATE);
    }

    /** "if THE ROPE was to come round in more TICKS than that, it does so in as many" */
    private static void theRopeInMoreTicksThanThat() {
        for (int every = 2; every <= 9; every++) {
            for (int t = 0; t < every; t++) {
                for (int another = 2; another <= 9; another++) {
                    SkipRope rope = Check.yard("e" + every + ";");
                    Check.ticks(rope, t);
                    rope.speeds(another);
                    int round = another < every - t ? another : every - t;
                    check.due("e" + every + ", tick " + t + ", speeds(" + another + ")", rope.now(2), round);
                    Check.ticks(rope, round);
                    check.due("and from then on", rope.now(2), another);
                }
            }
        }
    }

    private static void turnedBehindATrip() {
        for (int every = 2; every <= 9; every++) {
            for (int another = 2; another <= 9; another++) {
                SkipRope rope = Check.yard("e" + every + ";j12 1 11 9;");
                Check.ticks(rope, every);
                if (another != every) {
                    rope.speeds(another);
                    int round = another < every + 1 ? another : every + 1;
                    check.due("e" + every + " behind a trip, speeds(" + another + ")", rope.now(2), round);
                }
            }
        }
    }

    /** "(1: in the next one)" */
    private static void turnedAheadOfTheNextTick() {
        for (int another = 2; another <= 8; another++) {
            SkipRope rope = Check.yard("e9;j12 1 11 9;");
            Check.ticks(rope, 8);
            rope.speeds(another);
            check.due("speeds(" + another + "): in the next one yet", rope.now(2), 1);
            check.due("so it does", rope.ticks(), 1);
            check.due("then by the new one, and one more", rope.now(2), another + 1);
        }
        SkipRope rope = Check.yard("e9;j12 1 11 9;");
        rope.speeds(2);
        check.due("in two", rope.ticks(), 0);
        check.due("so it does", rope.ticks(), 1);
    }

    // ---- promise 9

    /** "BAD": there is no such JUMPER. */
    private static void whoCanGo() {
        for (int n = 0; n <= 6; n++) {
            SkipRope rope = Check.yard("j12 1 11 9;".repeat(n));
            check.due("goes(-1)", rope.goes(-1), SkipRope.BAD);
            check.due("goes(" + n + "), none", rope.goes(n), SkipRope.BAD);
            for (int j : FAR_OFF) {
                check.due("goes(" + j + ")", rope.goes(j), SkipRope.BAD);
            }
            check.due("all are in", rope.now(3), (1 << n) - 1);
            check.due("goes(" + (n - 1) + "), the last", rope.goes(n - 1), n == 0 ? SkipRope.BAD : n - 1);
        }
    }

    /** "STATE: he is." */
    private static void heIsOut() {
        SkipRope rope = Check.yard("e2;j12 1 11 9;j2 1 1 9;");
        check.due("goes(1)", rope.goes(1), 1);
        check.due("goes(1) again", rope.goes(1), SkipRope.STATE);
        Check.ticks(rope, 2);
        check.due("goes(0), who tripped", rope.goes(0), SkipRope.STATE);
        check.due("comes(1, 1)", rope.comes(1, 1), 1);
        check.due("goes(1), who came in", rope.goes(1), 0);
    }

    /** "how many are IN yet", down to none. */
    private static void theLastOneGoes() {
        SkipRope rope = Check.yard("j12 1 11 9;".repeat(6));
        for (int j = 0; j < 6; j++) {
            check.due("goes(" + j + ")", rope.goes(j), 5 - j);
        }
        for (int j = 0; j < 6; j++) {
            check.due("goes(" + j + "), nobody is in", rope.goes(j), SkipRope.STATE);
        }
        Check.ticks(rope, 4);
        check.due("nobody trips, so not one more", rope.now(2), 4);
    }

    // ---- promise 10

    /** "BAD": there is no such JUMPER. */
    private static void whoCanCome() {
        for (int n = 0; n <= 6; n++) {
            SkipRope rope = Check.yard("j12 1 11 9;".repeat(n));
            Check.ticks(rope, 4);
            check.due("comes(-1, 0)", rope.comes(-1, 0), SkipRope.BAD);
            check.due("comes(" + n + ", 0), none", rope.comes(n, 0), SkipRope.BAD);
            for (int j : FAR_OFF) {
                check.due("comes(" + j + ", 0)", rope.comes(j, 0), SkipRope.BAD);
            }
            check.due("nobody is in", rope.now(3), 0);
            check.due("comes(" + (n - 1) + ", 0), the last", rope.comes(n - 1, 0), n == 0 ? SkipRope.BAD : 1);
        }
    }

    /** "BAD (d 0 .. 11)", "due in d TICKS (0: in the next one)" */
    private static void dueFrom0To11() {
        for (int d = -3; d <= 15; d++) {
            boolean stands = d >= 0 && d <= 11;
            SkipRope rope = Check.yard("e9;j12 1 0 9;");
            rope.goes(0);
            check.due("comes(0, " + d + ")", rope.comes(0, d), stands ? 1 : SkipRope.BAD);
            check.due("due", rope.jumper(0, 5), stands ? d : SkipRope.NONE);
            Check.ticks(rope, 8);
            check.due("jumps in 8 ticks", 9 - rope.jumper(0, 2), stands && d < 8 ? 1 : 0);
            check.due("meets the rope in the ninth", rope.ticks(), stands && d != 8 ? 1 : 0);
        }
        for (int d : FAR_OFF) {
            SkipRope rope = Check.yard("j12 1 0 9;");
            rope.goes(0);
            check.due("comes(0, " + d + ")", rope.comes(0, d), SkipRope.BAD);
        }
    }

    /** "STATE: he is." */
    private static void heIsIn() {
        SkipRope rope = Check.yard("j4 1 3 9;");
        check.due("comes(0, 0), in at first", rope.comes(0, 0), SkipRope.STATE);
        check.due("due as he was", rope.jumper(0, 5), 3);
        rope.goes(0);
        check.due("comes(0, 11)", rope.comes(0, 11), 1);
        check.due("comes(0, 11) again", rope.comes(0, 11), SkipRope.STATE);
        check.due("comes(0, 0)", rope.comes(0, 0), SkipRope.STATE);
        check.due("due as he was", rope.jumper(0, 5), 11);
    }

    /** "the first of these: BAD .., STATE" */
    private static void badIsAheadOfState() {
        SkipRope rope = Check.yard("j4 1 3 9;");
        check.due("comes(0, 12), in", rope.comes(0, 12), SkipRope.BAD);
        check.due("comes(0, -1), in", rope.comes(0, -1), SkipRope.BAD);
        check.due("comes(1, 12)", rope.comes(1, 12), SkipRope.BAD);
    }

    /** "how many are", up to six. */
    private static void theSixthOneComes() {
        SkipRope rope = Check.yard("e2;" + "j12 1 11 9;".repeat(6));
        Check.ticks(rope, 2);
        for (int j = 5; j >= 0; j--) {
            check.due("comes(" + j + ", 0)", rope.comes(j, 0), 6 - j);
        }
        check.due("all are in", rope.now(3), 63);
    }

    /** "one who is OUT comes in, not UP": his jump of before does not save him. */
    private static void whoComesIsNotUp() {
        SkipRope rope = Check.yard("e2;j12 4 0 9;");
        rope.ticks();
        check.due("up", rope.jumper(0, 4), 3);
        rope.goes(0);
        rope.comes(0, 1);
        check.due("not up", rope.jumper(0, 4), 0);
        check.due("the rope finds him", rope.ticks(), 1);
        rope = Check.yard("e2;j12 4 0 9;");
        rope.ticks();
        rope.goes(0);
        rope.comes(0, 0);
        check.due("due in the next one he jumps", rope.ticks(), 0);
        check.due("and is up for all of his HANG", rope.jumper(0, 4), 3);
    }

    private static void whoComesHasTheWindThatHeHad() {
        SkipRope rope = Check.yard("e2;j2 1 1 1;");
        Check.ticks(rope, 4);
        check.due("no wind, out", rope.jumper(0, 2) + rope.jumper(0, 3), 0);
        check.due("comes(0, 0)", rope.comes(0, 0), 1);
        check.due("no wind yet", rope.jumper(0, 2), 0);
        check.due("due, but he does not jump", rope.ticks(), 0);
        check.due("not up", rope.jumper(0, 4), 0);
        check.due("due as often", rope.jumper(0, 5), 1);
    }

    // ---- promise 11

    /** "STATE: none." */
    private static void nothingToBeUndone() {
        SkipRope rope = new SkipRope();
        check.due("undo of a new object", rope.undo(), SkipRope.STATE);
        rope.ticks();
        check.due("undo of one", rope.undo(), 0);
        check.due("undo once more", rope.undo(), SkipRope.STATE);
        check.due("tick", rope.now(0), 0);
        check.due("an undo is not undone", rope.now(6), 0);
    }

    /** "(10 are known, older ones are lost)" */
    private static void tenAreKnown() {
        for (int n = 1; n <= 23; n++) {
            SkipRope rope = new SkipRope();
            Check.ticks(rope, n);
            int known = Math.min(n, 10);
            for (int left = known - 1; left >= 0; left--) {
                check.due(n + " ticks, undo", rope.undo(), left);
                check.due(n + " ticks, tick", rope.now(0), n - known + left);
            }
            check.due(n + " ticks, none is left", rope.undo(), SkipRope.STATE);
            check.due(n + " ticks, the older ones stay done", rope.now(0), n - known);
        }
    }

    /** A wrap-around: what is done behind an undo takes the place of what was undone, and of nothing else. */
    private static void theRingOfTenIsUsedAgain() {
        SkipRope rope = Check.yard("e9;");
        Check.ticks(rope, 13);
        for (int i = 0; i < 4; i++) {
            rope.undo();
        }
        check.due("six are left", rope.now(6), 6);
        for (int every = 2; every <= 5; every++) {
            rope.speeds(every);
        }
        check.due("ten again", rope.now(6), 10);
        rope.ticks();
        check.due("ten yet", rope.now(6), 10);
        rope.undo();
        int[] every = {4, 3, 2, 9};
        for (int e : every) {
            rope.undo();
            check.due("EVERY", rope.now(1), e);
            check.due("tick", rope.now(0), 9);
        }
        for (int tick = 8; tick >= 4; tick--) {
            rope.undo();
            check.due("tick", rope.now(0), tick);
        }
        check.due("the oldest one is lost", rope.undo(), SkipRope.STATE);
        check.due("tick", rope.now(0), 4);
    }

    /** "the latest ticks(), speeds(), goes(), comes()": each by itself, with all that it changed. */
    private static void eachOfTheFourIsUndone() {
        String text = "e6;j5 3 1 9;j4 2 0 9;";
        for (int which = 0; which < 4; which++) {
            SkipRope rope = Check.yard(text);
            SkipRope other = Check.yard(text);
            for (SkipRope one : new SkipRope[] {rope, other}) {
                Check.ticks(one, 2);
                one.goes(1);
            }
            int done = which == 0 ? rope.ticks() : which == 1 ? rope.speeds(2)
                : which == 2 ? rope.goes(0) : rope.comes(1, 7);
            check.holds("it was not refused", done >= 0);
            check.due("undo", rope.undo(), 3);
            check.holds("all is as it was ahead of " + which, Check.all(rope).equals(Check.all(other)));
        }
    }

    /** "that was not refused" */
    private static void whatIsRefusedIsNotUndone() {
        SkipRope rope = Check.yard("j4 1 3 9;j4 1 3 9;");
        rope.goes(1);
        check.due("speeds(4)", rope.speeds(4), SkipRope.STATE);
        check.due("speeds(1)", rope.speeds(1), SkipRope.BAD);
        check.due("goes(1)", rope.goes(1), SkipRope.STATE);
        check.due("goes(2)", rope.goes(2), SkipRope.BAD);
        check.due("comes(0, 0)", rope.comes(0, 0), SkipRope.STATE);
        check.due("comes(1, 12)", rope.comes(1, 12), SkipRope.BAD);
        check.due("one is known", rope.now(6), 1);
        check.due("undo", rope.undo(), 0);
        check.due("he is in again", rope.now(3), 3);
    }

    /** "ticks(), speeds(), goes(), comes()" and no other call. */
    private static void whatIsAskedIsNotUndone() {
        SkipRope rope = Check.yard("j4 1 3 9;j4 1 3 9;");
        rope.goes(1);
        rope.keep(0);
        rope.sees(1, 1, 1);
        rope.forget();
        rope.type('x');
        check.due("a yard that is refused", rope.yard(), -10);
        rope.clear();
        rope.rate(3, 0);
        check.due("one is known", rope.now(6), 1);
        rope.undo();
        check.due("the trace is not undone", rope.trace(), 1011);
        check.due("the image is there yet", rope.back(0), 0);
    }

    private static void aTripIsUndone() {
        SkipRope rope = Check.yard("e2;j2 1 1 1;j12 1 11 9;");
        rope.ticks();
        check.due("he trips", rope.ticks(), 2);
        check.due("undo", rope.undo(), 1);
        check.due("both are in", rope.now(3), 3);
        check.due("the rope comes in the next one", rope.now(2), 1);
        check.due("wind", rope.jumper(0, 2), 1);
        check.due("due", rope.jumper(0, 5), 0);
        check.due("trip", rope.jumper(1, 6), 1);
        check.due("he trips again", rope.ticks(), 2);
    }

    /** "(nothing can be UNDONE behind back())", and THE TEXT tells all anew. */
    private static void nothingIsUndoneBehindYardAndBack() {
        SkipRope rope = Check.yard("j4 1 3 9;");
        rope.keep(0);
        Check.ticks(rope, 11);
        rope.back(0);
        check.due("behind back", rope.undo(), SkipRope.STATE);
        rope.ticks();
        check.due("what is done behind back", rope.undo(), 0);
        Check.ticks(rope, 11);
        rope.yard();
        check.due("behind yard", rope.undo(), SkipRope.STATE);
        rope.ticks();
        check.due("what is done behind yard", rope.undo(), 0);
        check.due("and no more", rope.undo(), SkipRope.STATE);
    }
}
