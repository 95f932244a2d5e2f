import java.util.List;

/** Promises 12 to 15: stay, pace, entry, odds; and that asking changes nothing. */
public final class AheadTest {
    private static final Check check = new Check();

    public static void main(String[] args) {
        staying();
        stayingFar();
        pacing();
        pacingAtTheEdge();
        pacingRightBehindATrip();
        pacingByHand();
        entering();
        enteringFar();
        theOdds();
        theOddsOfSeveral();
        theOddsAtTheEdges();
        wrongOnes();
        askingChangesNothing();
        check.end();
    }

    private static void staying() {
        SkipRope rope = Check.yard("e2;j2 2 0 60;j12 1 11 1;j12 1 1 1;");
        int[] due = {7, 7, 5, 5, 5, 1, 1};
        for (int n = 0; n < due.length; n++) {
            check.due("stay(" + n + ")", rope.stay(n), due[n]);
        }
        rope.goes(0);
        check.due("stay(0), one out", rope.stay(0), 6);
        check.due("stay(2), one out", rope.stay(2), 4);
    }

    private static void stayingFar() {
        SkipRope rope = Check.yard("e3;j3 1 2 60;j3 1 2 39;j3 1 2 40;");
        check.due("stay(119)", rope.stay(119), 7);
        check.due("stay(120)", rope.stay(120), 5);
    }

    private static void pacing() {
        // Up in the ticks 4, 9, 14, ... alone: only EVERY 5 meets them all, and none but 5 outlasts the first rope,
        // save those that have not come round by then.
        SkipRope rope = Check.yard("e9;j5 1 4 60;");
        check.due("pace(0): all do", rope.pace(0), 2);
        check.due("pace(1): all do", rope.pace(1), 2);
        check.due("pace(2)", rope.pace(2), 3);
        check.due("pace(3)", rope.pace(3), 4);
        check.due("pace(4)", rope.pace(4), 5);
        check.due("pace(5)", rope.pace(5), 5);
        check.due("pace(120)", rope.pace(120), 5);
        check.due("every is as it was", rope.now(1), 9);
        rope = Check.yard("e2;j9 1 1 60;j9 1 1 60;");
        rope.ticks();
        check.due("pace(8), the rope of tick 1 is met, the next one comes in tick 9", rope.pace(8), 8);
        rope = Check.yard("e9;j9 1 8 60;");
        check.due("pace(120), the slowest", rope.pace(120), 9);
        rope = Check.yard("e9;j2 1 1 60;");
        check.due("pace(120), the fastest", rope.pace(120), 2);
        // As it is, too.
        rope = Check.yard("e5;j5 1 4 60;");
        check.due("pace(120), as it is", rope.pace(120), 5);
        // By 3 two stay, by 2 one, by 6 all.
        rope = Check.yard("e9;j3 1 2 60;j3 1 2 60;j2 1 1 60;");
        check.due("pace(50), most", rope.pace(50), 6);
        rope.goes(2);
        check.due("pace(50), the least of 3, 6, 9", rope.pace(50), 3);
        rope.goes(0);
        rope.goes(1);
        rope.comes(2, 1);
        check.due("pace(50), the least of 2, 4, 6, 8", rope.pace(50), 2);
        rope.goes(2);
        check.due("pace(120), nobody", rope.pace(120), 2);
    }

    private static void pacingAtTheEdge() {
        // The rope comes sooner, not later: with 1 tick to go, every EVERY finds him.
        SkipRope rope = Check.yard("e3;j12 1 11 60;");
        rope.ticks();
        rope.ticks();
        check.due("pace(1), too late", rope.pace(1), 2);
    }

    /** EVERY 3, TICK 3, one is OUT by a trip in the tick numbered 2: the rope comes round in tick 6, as it is. */
    private static SkipRope rightBehindATrip() {
        SkipRope rope = Check.yard("e3;j4 1 1 60;j12 1 11 1;j3 3 2 60;");
        rope.goes(0);
        Check.ticks(rope, 3);
        check.due("one more", rope.now(2), 4);
        rope.goes(2);
        return rope;
    }

    private static void pacingRightBehindATrip() {
        // Up in the tick 6 he meets the rope as it is; TURNED to 2 it finds him in tick 4.
        SkipRope rope = rightBehindATrip();
        rope.comes(0, 3);
        check.due("stay(4), as it is", rope.stay(4), 1);
        check.due("pace(1)", rope.pace(1), 2);
        check.due("pace(2)", rope.pace(2), 3);
        check.due("pace(3)", rope.pace(3), 3);
        check.due("pace(4), as it is", rope.pace(4), 3);
        // Up in the tick 5 alone he would meet a rope that came in 3 ticks, but it is not TURNED to the 3 that it has.
        rope = rightBehindATrip();
        rope.comes(0, 2);
        check.due("stay(4), in none", rope.stay(4), 0);
        check.due("pace(4), none is better", rope.pace(4), 2);
        // TURNED to another one and to this one again, it comes in 3: now 3 alone is met.
        check.due("speeds(4)", rope.speeds(4), 3);
        check.due("as many", rope.now(2), 4);
        check.due("pace(4), 3 is another one", rope.pace(4), 3);
        check.due("speeds(3)", rope.speeds(3), 4);
        check.due("as many", rope.now(2), 3);
        check.due("pace(4), as it is by now", rope.pace(4), 3);
    }

    private static int paceByHand(SkipRope rope, int n) {
        int best = 0;
        int most = -1;
        for (int every = 2; every <= 9; every++) {
            boolean turned = rope.speeds(every) != SkipRope.STATE;
            int left = Integer.bitCount(rope.stay(n));
            if (turned) {
                rope.undo();
            }
            if (left > most) {
                most = left;
                best = every;
            }
        }
        return best;
    }

    /** PACE is what speeds() and stay() tell of each EVERY, and stay() alone of the one that it is. */
    private static void pacingByHand() {
        String[] texts = {
            "j4 2 3 2;j2 1 1 5;j6 3 2 9;j4 1 2 3;j8 4 0 2;",
            "e2;j2 1 1 9;j3 1 0 9;j5 2 4 9;j12 4 8 9;j6 2 1 9;j7 3 0 9;",
            "e9;j9 1 8 60;j10 1 8 60;j3 1 2 60;j4 2 0 60;",
        };
        for (String text : texts) {
            for (int ticks = 0; ticks <= 20; ticks++) {
                for (int n : new int[] {0, 1, 2, 3, 4, 5, 6, 9, 10, 11, 20, 120}) {
                    SkipRope rope = Check.yard(text);
                    Check.ticks(rope, ticks);
                    int byHand = paceByHand(rope, n);
                    check.due(text + " " + ticks + " ticks, pace(" + n + ")", rope.pace(n), byHand);
                }
            }
        }
    }

    private static void entering() {
        // The rope comes in the ticks 3, 7, 11, ...; due in d he jumps in d, d + 4, ... and is up for one.
        SkipRope rope = Check.yard("j4 1 0 60;");
        rope.goes(0);
        check.due("entry(0)", rope.entry(0), 3);
        Check.ticks(rope, 1);
        check.due("a tick later", rope.entry(0), 2);
        Check.ticks(rope, 2);
        check.due("in the next one", rope.entry(0), 0);
        // The rope of tick 5 is met by a jump of 4 or 5, that of 11 by 4 + 6 or 5 + 6.
        rope = Check.yard("e6;j6 2 0 60;");
        rope.goes(0);
        check.due("the least of several", rope.entry(0), 4);
        // Without wind he trips in the first one, whenever he is due.
        rope = Check.yard("j2 1 1 1;");
        Check.ticks(rope, 8);
        check.due("no wind", rope.jumper(0, 2), 0);
        check.due("out", rope.jumper(0, 3), 0);
        check.due("no wind, the least", rope.entry(0), 0);
    }

    private static void enteringFar() {
        // 39 jumps by 3 from tick 2 on end in tick 116: the rope of tick 119 finds him, behind 120.
        SkipRope rope = Check.yard("e3;j3 1 0 39;");
        rope.goes(0);
        check.due("behind 120", rope.entry(0), 2);
        // Due in 0 he trips in tick 2; due in 1 or 2 never within 120.
        rope = Check.yard("e3;j3 2 0 40;");
        rope.goes(0);
        check.due("none, the least", rope.entry(0), 1);
        // Always up till his wind ends: due in d up to tick d + 117, and the rope comes in tick 119.
        rope = Check.yard("e8;j2 4 0 58;");
        check.due("due in 0: behind 120", rope.jumper(0, 6), 120);
        rope.goes(0);
        check.due("none is later than 120", rope.entry(0), 2);
        rope = Check.yard("e6;j12 1 0 60;");
        rope.goes(0);
        check.due("only the rope of tick 5 can be met", rope.entry(0), 5);
        rope = Check.yard("e9;j9 1 0 13;");
        Check.ticks(rope, 9);
        check.due("out", rope.jumper(0, 3), 0);
        check.due("one more than EVERY", rope.now(2), 10);
        check.due("due in 9", rope.entry(0), 9);
    }

    private static void odds(SkipRope rope, int x, int n, int upper, int lower) {
        check.due("odds(" + x + ", " + n + ", 0)", rope.odds(x, n, 0), upper);
        check.due("odds(" + x + ", " + n + ", 1)", rope.odds(x, n, 1), lower);
    }

    private static void theOdds() {
        // The rope of tick 3 is met by the jump of tick 3 alone: who misses it trips.
        SkipRope rope = Check.yard("j4 1 3 60;");
        odds(rope, 3, 3, 1, 1);
        odds(rope, 3, 4, 7, 10);
        odds(rope, 5, 4, 1, 2);
        odds(rope, 4, 60, 3, 5);
        odds(rope, 0, 60, 1, 1);
        odds(rope, 10, 4, 0, 1);
        odds(rope, 10, 3, 1, 1);
        // Only the next jump is missed: the rope of tick 7 is met.
        rope = Check.yard("j4 1 3 60;");
        rope.ticks();
        odds(rope, 2, 2, 1, 1);
        odds(rope, 2, 3, 4, 5);
        odds(rope, 2, 60, 4, 5);
        // He is never up in tick 3, whether he misses the jump of 0 or not.
        rope = Check.yard("j2 1 0 60;");
        odds(rope, 3, 60, 0, 1);
        // To miss one saves him: his only jump is that of tick 0, or else that of tick 3.
        rope = Check.yard("e4;j3 1 0 1;");
        odds(rope, 3, 4, 3, 10);
        odds(rope, 3, 7, 3, 10);
        odds(rope, 3, 8, 0, 1);
    }

    private static void theOddsOfSeveral() {
        SkipRope rope = Check.yard("j4 1 3 60;j4 1 3 60;j4 4 0 60;");
        odds(rope, 5, 4, 1, 8);
        odds(rope, 3, 4, 343, 1000);
        odds(rope, 1, 3, 1, 1);
        rope.goes(0);
        odds(rope, 3, 4, 49, 100);
        rope.goes(1);
        rope.goes(2);
        odds(rope, 3, 60, 1, 1);
        odds(rope, 10, 60, 1, 1);
        rope = Check.yard("j4 1 3 60;j4 1 3 60;j4 1 3 60;j4 1 3 60;j4 1 3 60;j4 1 3 60;");
        odds(rope, 3, 4, 117649, 1000000);
        odds(rope, 9, 4, 1, 1000000);
        odds(rope, 10, 4, 0, 1);
        odds(rope, 0, 4, 1, 1);
        // One who trips delays the rope, but then not all are in, whatever the others do.
        rope = Check.yard("j4 1 3 60;j5 1 4 60;");
        odds(rope, 3, 4, 0, 1);
        odds(rope, 3, 3, 1, 1);
    }

    private static void theOddsAtTheEdges() {
        SkipRope rope = Check.yard("e9;j12 4 11 60;");
        odds(rope, 3, 0, 1, 1);
        odds(rope, 10, 8, 1, 1);
        odds(rope, 0, 9, 0, 1);
        // Who has no wind can't miss more than he does.
        rope = Check.yard("e9;j2 1 0 1;");
        rope.ticks();
        check.due("no wind", rope.jumper(0, 2), 0);
        odds(rope, 5, 7, 1, 1);
        odds(rope, 5, 8, 0, 1);
        // Wind is as it was when a jump is missed: two jumps, 2 and 5; with the first one missed 5 and 8.
        rope = Check.yard("e3;j3 1 2 2;");
        odds(rope, 1, 6, 9, 10);
        odds(rope, 1, 8, 9, 10);
        odds(rope, 1, 9, 0, 1);
        // In the air now, he misses the next one.
        rope = Check.yard("e4;j4 4 0 60;");
        rope.ticks();
        odds(rope, 1, 6, 1, 1);
        odds(rope, 1, 7, 9, 10);
    }

    private static void wrongOnes() {
        SkipRope rope = Check.yard("j4 1 3 60;");
        int[] far = {-1, 121, Integer.MIN_VALUE, Integer.MAX_VALUE};
        for (int n : far) {
            check.due("stay(" + n + ")", rope.stay(n), SkipRope.BAD);
            check.due("pace(" + n + ")", rope.pace(n), SkipRope.BAD);
            check.due("odds(0, " + n + ", 0)", rope.odds(0, n, 0), SkipRope.BAD);
            check.due("odds(" + n + ", 0, 0)", rope.odds(n, 0, 0), SkipRope.BAD);
            check.due("odds(0, 0, " + n + ")", rope.odds(0, 0, n), SkipRope.BAD);
            check.due("entry(" + n + ")", rope.entry(n), SkipRope.BAD);
        }
        check.due("odds(11, 0, 0)", rope.odds(11, 0, 0), SkipRope.BAD);
        check.due("odds(0, 61, 0)", rope.odds(0, 61, 0), SkipRope.BAD);
        check.due("odds(0, 0, 2)", rope.odds(0, 0, 2), SkipRope.BAD);
        check.due("entry(1)", rope.entry(1), SkipRope.BAD);
        check.due("entry(0), in", rope.entry(0), SkipRope.STATE);
        check.due("entry of nobody", new SkipRope().entry(0), SkipRope.BAD);
    }

    private static void askingChangesNothing() {
        SkipRope rope = Check.yard("e5;j4 1 3 60;j3 2 1 2;j12 1 0 1;");
        rope.ticks();
        rope.goes(1);
        List<Long> before = Check.all(rope);
        for (int n = 0; n <= 120; n += 7) {
            rope.stay(n);
            rope.pace(n);
        }
        rope.entry(1);
        rope.odds(4, 44, 0);
        rope.odds(4, 44, 1);
        check.holds("asking changes nothing", before.equals(Check.all(rope)));
    }
}
