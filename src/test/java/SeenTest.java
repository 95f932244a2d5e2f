import java.util.List;

/** Promises 16 to 19: sees, forget, ways, look. */
public final class SeenTest {
    private static final Check check = new Check();

    public static void main(String[] args) {
        seeing();
        forgetting();
        theWays();
        theWaysByHang();
        theWaysAtTheEdges();
        looking();
        lookingAtTheEdges();
        noLook();
        wrongOnes();
        check.end();
    }

    private static void seeing() {
        SkipRope rope = new SkipRope();
        for (int n = 1; n <= 6; n++) {
            check.due("sees, the same again", rope.sees(4, 40, 1), n);
            check.due("count", rope.count(1), n);
        }
        check.due("sees, full", rope.sees(1, 0, 0), SkipRope.FULL);
        check.due("sees, bad ahead of full", rope.sees(0, 0, 0), SkipRope.BAD);
        check.due("count", rope.count(1), 6);
    }

    private static void forgetting() {
        SkipRope rope = new SkipRope();
        check.due("forget, nothing", rope.forget(), 0);
        rope.sees(1, 0, 1);
        rope.sees(1, 3, 1);
        check.due("one way", rope.ways(0), 1);
        check.due("forget", rope.forget(), 2);
        check.due("forget again", rope.forget(), 0);
        check.due("all ways", rope.ways(0), 132);
        check.due("sees anew", rope.sees(1, 1, 0), 1);
    }

    private static void ways(SkipRope rope, int many, int first) {
        check.due("ways(0)", rope.ways(0), many);
        check.due("ways(1)", rope.ways(1), first);
    }

    private static void theWays() {
        SkipRope rope = new SkipRope();
        ways(rope, 132, 200);
        rope.sees(1, 0, 1);
        ways(rope, 11, 200);
        rope.sees(1, 3, 1);
        ways(rope, 1, 300);
        rope.sees(1, 3, 0);
        ways(rope, 0, SkipRope.NONE);
        rope.forget();
        rope.sees(1, 0, 0);
        ways(rope, 121, 201);
        // START 11 is the only one that is not up from 0 to 10.
        rope.forget();
        rope.sees(2, 11, 1);
        rope.sees(4, 10, 0);
        rope.sees(4, 6, 0);
        rope.sees(4, 2, 0);
        ways(rope, 11, 211);
        rope.sees(1, 23, 1);
        rope.sees(1, 22, 0);
        ways(rope, 5, 211);
        rope.forget();
        rope.sees(2, 11, 1);
        rope.sees(4, 10, 0);
        rope.sees(4, 6, 0);
        rope.sees(4, 2, 0);
        rope.sees(1, 23, 1);
        rope.sees(3, 21, 0);
        ways(rope, 2, 611);
    }

    private static void theWaysByHang() {
        // Up in tick 3: with a HANG of 4 if he started in 0 to 3, whatever his period; of 1 only if 3 is a jump's tick.
        SkipRope rope = new SkipRope();
        rope.sees(4, 3, 1);
        ways(rope, 44, 200);
        rope.forget();
        rope.sees(1, 3, 1);
        // START 3: 11; START 0: PERIOD 3; START 1: PERIOD 2; START 2: none.
        ways(rope, 13, 201);
        rope.forget();
        rope.sees(2, 3, 1);
        // START 3 and 2: 22; START 1: PERIOD 2; START 0: PERIOD 2 and 3.
        ways(rope, 25, 200);
        // Each sight has a HANG of its own.
        rope.sees(1, 3, 0);
        ways(rope, 12, 200);
    }

    private static void theWaysAtTheEdges() {
        SkipRope rope = new SkipRope();
        check.due("sees(1, 40, 1)", rope.sees(1, 40, 1), 1);
        int many = 0;
        for (int period = 2; period <= 12; period++) {
            for (int start = 0; start <= 11; start++) {
                for (int t = start; t <= 40; t += period) {
                    many += t == 40 ? 1 : 0;
                }
            }
        }
        ways(rope, many, 200);
    }

    private static void looking() {
        SkipRope rope = new SkipRope();
        rope.sees(1, 0, 1);
        // START 0 and eleven periods: up in t with HANG h are those by which t leaves less than h.
        check.due("look(1): 2, 3, 4, 6, 12 go into 12", rope.look(1), 12);
        check.due("look(2)", rope.look(2), 9);
        check.due("look(3)", rope.look(3), 6);
        check.due("look(4)", rope.look(4), 6);
        // 2 and 3, 4, .. by 12: PERIODS 2, 3, 4, 6, 12.
        rope.sees(1, 12, 1);
        ways(rope, 5, 200);
        // In 4: 2 and 4 are up, so three are the greater part.
        check.due("look(1)", rope.look(1), 4);
        rope.sees(1, 4, 0);
        ways(rope, 3, 300);
        check.due("look(1), the first that parts 3, 6, 12", rope.look(1), 3);
        rope.sees(1, 3, 0);
        ways(rope, 2, 600);
        check.due("look(1), the first that parts 6, 12", rope.look(1), 6);
        check.due("look(4), the first that parts 6, 12", rope.look(4), 6);
        rope.forget();
        // All 132, counted apart: the greater parts are 103, 75, 66 and 69.
        int[] best = {11, 11, 15, 8};
        for (int hang = 1; hang <= 4; hang++) {
            check.due("look(" + hang + "), nothing seen", rope.look(hang), best[hang - 1]);
        }
    }

    private static void lookingAtTheEdges() {
        // PERIOD and START 2 1, 3 0, 5 0, 7 1: tick 0 parts them two and two.
        SkipRope rope = new SkipRope();
        rope.sees(3, 1, 1);
        rope.sees(1, 15, 1);
        ways(rope, 4, 201);
        check.due("look(1), the first tick", rope.look(1), 0);
        // START 4 and PERIODS 7, 9, 11, 12: only tick 40, 36 behind the start, parts them two and two.
        rope.forget();
        rope.sees(2, 35, 0);
        rope.sees(1, 4, 1);
        rope.sees(2, 21, 0);
        ways(rope, 4, 704);
        check.due("look(1), the last tick", rope.look(1), 40);
    }

    private static void noLook() {
        SkipRope rope = new SkipRope();
        rope.sees(1, 0, 1);
        rope.sees(1, 3, 1);
        check.due("one way", rope.ways(0), 1);
        check.due("look, one way", rope.look(1), SkipRope.NONE);
        rope.sees(1, 3, 0);
        check.due("no way", rope.ways(0), 0);
        check.due("look, no way", rope.look(4), SkipRope.NONE);
        check.due("look, bad ahead", rope.look(5), SkipRope.BAD);
    }

    private static void wrongOnes() {
        SkipRope rope = Check.yard("j4 1 3 60;");
        List<Long> before = Check.all(rope);
        int[] wrong = {-1, Integer.MIN_VALUE, Integer.MAX_VALUE, 41, 77};
        for (int w : wrong) {
            check.due("sees(" + w + ", 0, 0)", rope.sees(w, 0, 0), SkipRope.BAD);
            check.due("sees(1, " + w + ", 0)", rope.sees(1, w, 0), SkipRope.BAD);
            check.due("sees(1, 0, " + w + ")", rope.sees(1, 0, w), SkipRope.BAD);
            check.due("ways(" + w + ")", rope.ways(w), SkipRope.BAD);
            check.due("look(" + w + ")", rope.look(w), SkipRope.BAD);
        }
        check.due("sees(0, 0, 0)", rope.sees(0, 0, 0), SkipRope.BAD);
        check.due("sees(5, 0, 0)", rope.sees(5, 0, 0), SkipRope.BAD);
        check.due("sees(1, 0, 2)", rope.sees(1, 0, 2), SkipRope.BAD);
        check.due("ways(2)", rope.ways(2), SkipRope.BAD);
        check.due("look(0)", rope.look(0), SkipRope.BAD);
        check.due("look(5)", rope.look(5), SkipRope.BAD);
        check.holds("what is refused changes nothing", before.equals(Check.all(rope)));
    }
}
