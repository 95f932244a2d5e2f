/** Promises 12 to 15: a test of its own for each sentence of the document that names a boundary. */
public final class EdgeAheadTest {
    private static final Check check = new Check();
    private static final int[] FAR_OFF = {Integer.MIN_VALUE, Integer.MAX_VALUE};

    public static void main(String[] args) {
        stayIsFrom0To120();
        stayBehind0AndBehind120();
        stayOfNobodyAndOfAll();
        paceIsFrom0To120();
        paceBehind0AndBehind120();
        theSlowestAndTheFastest();
        ofSeveralPacesTheLeast();
        asItIsToo();
        whoseEntry();
        entryOfOneWhoIsIn();
        theSoonestAndTheLatestEntry();
        noneCountsAs121();
        ofSeveralEntriesTheLeast();
        xIsFrom0To10();
        oddsAreFrom0To60();
        upperAndLowerNumber();
        oddsBehind0AndBehind60();
        noneMissesAndAllMiss();
        inLeastTerms();
        theOddsOfNobodyAndOfSix();
        whoIsOutHasNoPartInTheOdds();
        heMissesTheNextJumpAlone();
        hisWindIsAsItWas();
        whoTripsHelpsNobody();
        looksKnowNoLastTick();
        check.end();
    }

    // ---- promise 12

    /** "STAY behind n (0 .. 120) TICKS", "BAD" */
    private static void stayIsFrom0To120() {
        SkipRope rope = Check.yard("e2;j2 2 0 60;");
        for (int n = -5; n <= 125; n++) {
            check.due("stay(" + n + ")", rope.stay(n), n >= 0 && n <= 120 ? 1 : SkipRope.BAD);
        }
        for (int n : FAR_OFF) {
            check.due("stay(" + n + ")", rope.stay(n), SkipRope.BAD);
        }
    }

    private static void stayBehind0AndBehind120() {
        SkipRope rope = Check.yard("e4;j12 1 11 9;j4 1 3 60;");
        Check.ticks(rope, 3);
        check.due("stay(0)", rope.stay(0), 3);
        check.due("stay(1)", rope.stay(1), 2);
        // The first trips by the rope of tick 119, the second by that of tick 123.
        rope = Check.yard("e4;j4 1 3 29;j4 1 3 30;");
        check.due("stay(119)", rope.stay(119), 3);
        check.due("stay(120)", rope.stay(120), 2);
        Check.ticks(rope, 1);
        check.due("stay(118), a tick later", rope.stay(118), 3);
        check.due("stay(119), a tick later", rope.stay(119), 2);
    }

    private static void stayOfNobodyAndOfAll() {
        check.due("stay(0), no jumpers", new SkipRope().stay(0), 0);
        SkipRope rope = Check.yard("e2;" + "j2 2 0 60;".repeat(6));
        check.due("stay(120), all", rope.stay(120), 63);
        for (int j = 0; j < 6; j++) {
            rope.goes(j);
        }
        check.due("stay(0), all are out", rope.stay(0), 0);
        check.due("stay(120), all are out", rope.stay(120), 0);
    }

    // ---- promise 13

    /** "PACE for n (0 .. 120)", "BAD" */
    private static void paceIsFrom0To120() {
        SkipRope rope = Check.yard("e9;j7 1 6 60;");
        for (int n = -5; n <= 125; n++) {
            // Of those that have not come round behind n ticks the least is n + 1; from 6 on it is 7 alone.
            int due = n < 0 || n > 120 ? SkipRope.BAD : Math.max(2, Math.min(n + 1, 7));
            check.due("pace(" + n + ")", rope.pace(n), due);
        }
        for (int n : FAR_OFF) {
            check.due("pace(" + n + ")", rope.pace(n), SkipRope.BAD);
        }
    }

    private static void paceBehind0AndBehind120() {
        SkipRope rope = Check.yard("e2;j12 1 11 9;");
        rope.ticks();
        check.due("pace(0), the trip is ahead", rope.pace(0), 2);
        check.due("pace(1), it can't be helped", rope.pace(1), 2);
        // By 2 he has wind for the ropes up to tick 117, and that of 119 finds him; by 4 they come in 1, 5, .. 117, 121.
        rope = Check.yard("e2;j2 1 1 59;");
        check.due("pace(119)", rope.pace(119), 2);
        check.due("pace(120)", rope.pace(120), 4);
    }

    /** "EVERY (2 .. 9)" */
    private static void theSlowestAndTheFastest() {
        for (int every = 2; every <= 9; every++) {
            SkipRope rope = Check.yard("e9;j" + every + " 1 " + (every - 1) + " 60;");
            check.due("pace(120), the one that he jumps by", rope.pace(120), every);
            check.due("EVERY is as it was", rope.now(1), 9);
            check.due("the rope is as it was", rope.now(2), 9);
        }
    }

    /** "of several the least" */
    private static void ofSeveralPacesTheLeast() {
        SkipRope rope = Check.yard("e9;j2 2 0 60;");
        check.due("all of them", rope.pace(120), 2);
        rope = Check.yard("e5;j4 1 3 60;");
        check.due("4 and 8", rope.pace(100), 4);
        check.due("none of them", Check.yard("e5;j12 1 11 1;").pace(120), 2);
        check.due("nobody is there", new SkipRope().pace(120), 2);
        // By 3 the two stay; by 2, 4, .. the third one alone; by 6 all.
        rope = Check.yard("e9;j3 1 2 60;j3 1 2 60;j2 1 1 60;");
        check.due("most, though it is not the least", rope.pace(100), 6);
        rope.goes(0);
        check.due("most yet", rope.pace(100), 6);
        rope.goes(2);
        check.due("3, 6 and 9", rope.pace(100), 3);
        rope.goes(1);
        check.due("all are out", rope.pace(100), 2);
    }

    /** "TURNED NOW (as it is, too)", at its edge: right behind a trip, when the rope waits one more. */
    private static void asItIsToo() {
        for (int every = 2; every <= 9; every++) {
            SkipRope rope = Check.yard("e" + every + ";j12 1 11 1;j12 1 0 60;");
            rope.goes(1);
            Check.ticks(rope, every);
            check.due("the rope waits", rope.now(2), every + 1);
            // Due in EVERY ticks he meets the rope that waits one more, and no other but one that comes no sooner.
            rope.comes(1, every);
            check.due("stay, as it is", rope.stay(every + 1), 2);
            check.due("e" + every + ", pace", rope.pace(every + 1), every);
            // Due a tick sooner he meets none: it is not TURNED to the EVERY that it has, so it does not come sooner.
            rope.goes(1);
            rope.comes(1, every - 1);
            check.due("stay, as it is", rope.stay(every + 1), 0);
            check.due("e" + every + ", pace", rope.pace(every + 1), 2);
        }
    }

    // ---- promise 14

    /** "BAD": there is no such JUMPER. */
    private static void whoseEntry() {
        for (int n = 0; n <= 6; n++) {
            SkipRope rope = Check.yard("e2;" + "j12 1 11 9;".repeat(n));
            Check.ticks(rope, 2);
            check.due("entry(-1)", rope.entry(-1), SkipRope.BAD);
            check.due("entry(" + n + "), none", rope.entry(n), SkipRope.BAD);
            for (int j : FAR_OFF) {
                check.due("entry(" + j + ")", rope.entry(j), SkipRope.BAD);
            }
            // The rope waits one more: it comes in the third tick from now.
            check.due("entry(" + (n - 1) + "), the last", rope.entry(n - 1), n == 0 ? SkipRope.BAD : 2);
        }
    }

    /** "STATE: he is IN." */
    private static void entryOfOneWhoIsIn() {
        SkipRope rope = Check.yard("j4 1 3 9;j4 1 3 9;");
        check.due("entry(0), in at first", rope.entry(0), SkipRope.STATE);
        rope.goes(0);
        check.due("entry(0), out", rope.entry(0), 3);
        check.due("entry(1), in", rope.entry(1), SkipRope.STATE);
        rope.comes(0, 3);
        check.due("entry(0), in again", rope.entry(0), SkipRope.STATE);
    }

    /** "in how many TICKS (0 .. 11) he is to be due": the rope comes in 1 .. 10 ticks, so it is 0 .. 9. */
    private static void theSoonestAndTheLatestEntry() {
        SkipRope rope = Check.yard("e9;j12 1 0 9;j12 1 11 1;");
        rope.goes(0);
        for (int t = 0; t < 9; t++) {
            check.due("tick " + t, rope.entry(0), 8 - t);
            rope.ticks();
        }
        check.due("the rope waits one more", rope.now(2), 10);
        check.due("in 9", rope.entry(0), 9);
        check.due("he is out yet", rope.now(3), 0);
    }

    /** "(NONE counts as 121)" */
    private static void noneCountsAs121() {
        // Always up till his wind ends: due in 0 or 1 the rope of tick 119 finds him, due in 2 it does not.
        SkipRope rope = Check.yard("e8;j2 4 0 58;");
        rope.goes(0);
        rope.comes(0, 1);
        check.due("due in 1", rope.jumper(0, 6), 120);
        rope.goes(0);
        rope.comes(0, 2);
        check.due("due in 2", rope.jumper(0, 6), SkipRope.NONE);
        rope.goes(0);
        check.due("121 is more than 120", rope.entry(0), 2);
        // Due in 0 he is up till tick 121 and trips behind 124, due in 2 behind 128: both are NONE, and alike.
        rope = Check.yard("e4;j2 4 0 60;");
        rope.goes(0);
        check.due("121 and 121", rope.entry(0), 0);
    }

    /** "of several the least" */
    private static void ofSeveralEntriesTheLeast() {
        for (int hang = 1; hang <= 4; hang++) {
            SkipRope rope = Check.yard("e6;j6 " + hang + " 0 60;");
            rope.goes(0);
            check.due("hang " + hang, rope.entry(0), 6 - hang);
        }
        // Without wind he trips by the next rope, whenever he is due.
        SkipRope rope = Check.yard("e2;j2 1 1 1;");
        Check.ticks(rope, 4);
        check.due("out, without wind", rope.jumper(0, 2) + rope.jumper(0, 3), 0);
        check.due("all are alike", rope.entry(0), 0);
    }

    // ---- promise 15

    private static void odds(SkipRope rope, int x, int n, int upper, int lower) {
        check.due("odds(" + x + ", " + n + ", 0)", rope.odds(x, n, 0), upper);
        check.due("odds(" + x + ", " + n + ", 1)", rope.odds(x, n, 1), lower);
    }

    /** "x (0 .. 10)", "BAD" */
    private static void xIsFrom0To10() {
        SkipRope rope = Check.yard("j4 1 3 60;");
        for (int x = -5; x <= 15; x++) {
            boolean stands = x >= 0 && x <= 10;
            int common = x == 0 || x == 10 ? 10 : x == 5 ? 5 : x % 2 == 0 ? 2 : 1;
            odds(rope, x, 4, stands ? (10 - x) / common : SkipRope.BAD, stands ? 10 / common : SkipRope.BAD);
        }
        for (int x : FAR_OFF) {
            odds(rope, x, 4, SkipRope.BAD, SkipRope.BAD);
        }
    }

    /** "n (0 .. 60)", "BAD" */
    private static void oddsAreFrom0To60() {
        SkipRope rope = Check.yard("j4 1 3 60;");
        for (int n = -5; n <= 65; n++) {
            boolean stands = n >= 0 && n <= 60;
            odds(rope, 1, n, stands ? n < 4 ? 1 : 9 : SkipRope.BAD, stands ? n < 4 ? 1 : 10 : SkipRope.BAD);
        }
        for (int n : FAR_OFF) {
            odds(rope, 1, n, SkipRope.BAD, SkipRope.BAD);
        }
        odds(rope, 1, 120, SkipRope.BAD, SkipRope.BAD);
    }

    /** "upper (what = 0), lower number (1)", "BAD" */
    private static void upperAndLowerNumber() {
        SkipRope rope = Check.yard("j4 1 3 60;");
        for (int what = -3; what <= 5; what++) {
            int due = what == 0 ? 7 : what == 1 ? 10 : SkipRope.BAD;
            check.due("odds(3, 4, " + what + ")", rope.odds(3, 4, what), due);
        }
        for (int what : FAR_OFF) {
            check.due("odds(3, 4, " + what + ")", rope.odds(3, 4, what), SkipRope.BAD);
        }
    }

    private static void oddsBehind0AndBehind60() {
        // By his wind he meets the ropes of tick 3 to 55, and that of tick 59 finds him.
        SkipRope rope = Check.yard("j4 1 3 14;");
        odds(rope, 0, 59, 1, 1);
        odds(rope, 0, 60, 0, 1);
        rope = Check.yard("j4 1 3 15;");
        Check.ticks(rope, 3);
        odds(rope, 0, 60, 1, 1);
        odds(rope, 1, 0, 1, 1);
        odds(rope, 1, 1, 9, 10);
        rope.ticks();
        odds(rope, 0, 59, 1, 1);
        odds(rope, 0, 60, 0, 1);
    }

    private static void noneMissesAndAllMiss() {
        // Who misses trips, who does not stays.
        SkipRope rope = Check.yard("j4 1 3 60;j4 1 3 60;");
        odds(rope, 0, 60, 1, 1);
        odds(rope, 10, 60, 0, 1);
        odds(rope, 10, 3, 1, 1);
        // Who misses stays, who does not trips.
        rope = Check.yard("j3 1 0 1;j3 1 0 1;");
        odds(rope, 0, 4, 0, 1);
        odds(rope, 10, 4, 1, 1);
        odds(rope, 9, 4, 81, 100);
        // One of each.
        rope = Check.yard("j4 1 3 60;j3 1 0 1;");
        odds(rope, 0, 4, 0, 1);
        odds(rope, 10, 4, 0, 1);
        odds(rope, 5, 4, 1, 4);
        odds(rope, 1, 4, 9, 100);
        odds(rope, 4, 4, 6, 25);
    }

    /** "a fraction", "in least terms": 0 and 1, too. */
    private static void inLeastTerms() {
        SkipRope rope = Check.yard("j4 1 3 60;j4 1 3 60;j4 1 3 60;");
        int[] upper = {1, 729, 64, 343, 27, 1, 8, 27, 1, 1, 0};
        int[] lower = {1, 1000, 125, 1000, 125, 8, 125, 1000, 125, 1000, 1};
        for (int x = 0; x <= 10; x++) {
            odds(rope, x, 4, upper[x], lower[x]);
        }
    }

    private static void theOddsOfNobodyAndOfSix() {
        odds(new SkipRope(), 0, 0, 1, 1);
        odds(new SkipRope(), 10, 60, 1, 1);
        SkipRope rope = Check.yard("j4 1 3 60;".repeat(6));
        odds(rope, 1, 4, 531441, 1000000);
        odds(rope, 9, 4, 1, 1000000);
        odds(rope, 5, 4, 1, 64);
        odds(rope, 2, 4, 4096, 15625);
        odds(rope, 10, 4, 0, 1);
        odds(rope, 0, 60, 1, 1);
    }

    /** "all who are IN NOW" */
    private static void whoIsOutHasNoPartInTheOdds() {
        SkipRope rope = Check.yard("j4 1 3 60;j12 1 11 1;j4 1 3 60;");
        odds(rope, 1, 4, 0, 1);
        rope.goes(1);
        odds(rope, 1, 4, 81, 100);
        rope.goes(0);
        odds(rope, 1, 4, 9, 10);
        rope.goes(2);
        odds(rope, 1, 4, 1, 1);
    }

    /** "misses his next jump .. (he does not jump when he is due first; he is due again in PERIOD TICKS ..)" */
    private static void heMissesTheNextJumpAlone() {
        // Up by two ticks of three; the ropes of 8 and 17 find him up, though he missed the jump of tick 1.
        SkipRope rope = Check.yard("e9;j3 2 1 60;");
        odds(rope, 10, 60, 1, 1);
        // The jump of tick 7 meets the rope of tick 8: in tick 4 it is the next one but one, in tick 5 the next one.
        Check.ticks(rope, 4);
        odds(rope, 10, 4, 1, 1);
        odds(rope, 3, 5, 1, 1);
        Check.ticks(rope, 1);
        odds(rope, 3, 3, 1, 1);
        odds(rope, 3, 4, 7, 10);
        // In the air now: his jump goes on, the next one is missed.
        rope = Check.yard("e4;j4 4 0 60;");
        rope.ticks();
        odds(rope, 1, 6, 1, 1);
        odds(rope, 1, 7, 9, 10);
    }

    /** "his WIND is as it was" */
    private static void hisWindIsAsItWas() {
        // By the last wind he jumps in tick 3, if he missed the jump of tick 0.
        SkipRope rope = Check.yard("e4;j3 1 0 1;");
        odds(rope, 10, 4, 1, 1);
        odds(rope, 10, 7, 1, 1);
        odds(rope, 10, 8, 0, 1);
        // Without wind there is nothing to be missed.
        rope = Check.yard("e9;j2 1 0 1;");
        rope.ticks();
        odds(rope, 5, 7, 1, 1);
        odds(rope, 5, 8, 0, 1);
        odds(rope, 10, 8, 0, 1);
    }

    /** "that all who are IN NOW are IN": a trip makes the rope wait, but then it is lost already. */
    private static void whoTripsHelpsNobody() {
        // By one more jump the rope of tick 7 finds each; by a missed one it is that of tick 9, or of 10, if one tripped.
        SkipRope rope = Check.yard("e2;j2 3 1 2;j2 3 1 2;");
        Check.ticks(rope, 2);
        odds(rope, 3, 5, 1, 1);
        odds(rope, 3, 6, 9, 100);
        odds(rope, 3, 7, 9, 100);
        odds(rope, 3, 8, 0, 1);
        odds(rope, 3, 9, 0, 1);
    }

    /** "(As things are NOW; nothing is changed; TICKS alone go by.)", close to the last tick, beyond 512 calls. */
    private static void looksKnowNoLastTick() {
        SkipRope rope = Check.yard("j4 1 3 60;");
        rope.goes(0);
        Check.ticks(rope, 996);
        rope.comes(0, 3);
        check.due("stay(120)", rope.stay(120), 1);
        check.due("odds", rope.odds(5, 60, 1), 2);
        check.due("tick", rope.now(0), 996);
    }
}
