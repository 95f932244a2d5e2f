import java.util.ArrayList;
import java.util.List;
import java.util.function.Function;
import java.util.function.Supplier;
import java.util.function.ToLongFunction;

/**
 * "Refused, and nothing changes, the first of these: BAD .., STATE (as told), FULL": each call that is refused is made
 * on one of two objects that are alike, and all that can be told of both is compared behind it.
 * What is only asked ("nothing is changed") goes through the same.
 */
public final class RefusedTest {
    private static final Check check = new Check();
    private static final int[] FAR_OFF = {Integer.MIN_VALUE, Integer.MAX_VALUE};

    private record Call(String name, ToLongFunction<SkipRope> made, long due) { }

    private static final List<Call> calls = new ArrayList<>();

    /** All that can be told of an object: one view by what it answers, others by what brings its past to light. */
    private static final List<Function<SkipRope, List<Long>>> VIEWS =
        List.of(Check::all, RefusedTest::past, RefusedTest::images);

    public static void main(String[] args) {
        ofANewObject();
        ofAYardInUse();
        ofAFullOne();
        ofOneWithNobodyIn();
        ofTheTick999();
        whatIsAsked();
        check.end();
    }

    private static void refused(String name, ToLongFunction<SkipRope> made, long due) {
        calls.add(new Call(name, made, due));
    }

    /** Each call by itself, and then all of them in a row. */
    private static void compareTwins(String where, Supplier<SkipRope> twin) {
        for (Function<SkipRope, List<Long>> view : VIEWS) {
            List<Long> wanted = view.apply(twin.get());
            SkipRope row = twin.get();
            for (Call call : calls) {
                SkipRope rope = twin.get();
                check.due(where + ": " + call.name, call.made.applyAsLong(rope), call.due);
                check.holds(where + ": nothing changes by " + call.name, view.apply(rope).equals(wanted));
                call.made.applyAsLong(row);
            }
            check.holds(where + ": nothing changes by all of them", view.apply(row).equals(wanted));
        }
        calls.clear();
    }

    private static List<Long> past(SkipRope rope) {
        List<Long> answers = new ArrayList<>();
        for (int n = 0; n <= 10; n++) {
            answers.add((long) rope.undo());
            now(rope, answers);
        }
        return answers;
    }

    private static List<Long> images(SkipRope rope) {
        List<Long> answers = new ArrayList<>();
        for (int image = 0; image <= 1; image++) {
            answers.add((long) rope.back(image));
            now(rope, answers);
        }
        return answers;
    }

    private static void now(SkipRope rope, List<Long> answers) {
        for (int what = 0; what <= 3; what++) {
            answers.add((long) rope.now(what));
        }
        int jumpers = rope.count(0);
        for (int j = 0; j < jumpers; j++) {
            answers.add((long) rope.jumper(j, 2));
            answers.add((long) rope.jumper(j, 4));
            answers.add((long) rope.jumper(j, 5));
        }
    }

    /** Those that are BAD in every state; n is how many JUMPERS there are. */
    private static void badOnes(int n) {
        for (int w : new int[] {-1, 256, Integer.MIN_VALUE, Integer.MAX_VALUE}) {
            refused("type(" + w + ")", r -> r.type(w), SkipRope.BAD);
        }
        for (int j : new int[] {-1, n, 6, Integer.MIN_VALUE, Integer.MAX_VALUE}) {
            refused("jumper(" + j + ", 0)", r -> r.jumper(j, 0), SkipRope.BAD);
            refused("goes(" + j + ")", r -> r.goes(j), SkipRope.BAD);
            refused("comes(" + j + ", 0)", r -> r.comes(j, 0), SkipRope.BAD);
            refused("entry(" + j + ")", r -> r.entry(j), SkipRope.BAD);
            refused("rate(0, " + j + ")", r -> r.rate(0, j), SkipRope.NO);
        }
        badNumbers();
        for (int w : FAR_OFF) {
            for (int v : FAR_OFF) {
                refused("jumper(" + w + ", " + v + ")", r -> r.jumper(w, v), SkipRope.BAD);
                refused("comes(" + w + ", " + v + ")", r -> r.comes(w, v), SkipRope.BAD);
                refused("odds(" + w + ", " + v + ", " + w + ")", r -> r.odds(w, v, w), SkipRope.BAD);
                refused("sees(" + w + ", " + v + ", " + w + ")", r -> r.sees(w, v, w), SkipRope.BAD);
                refused("rate(" + w + ", " + v + ")", r -> r.rate(w, v), SkipRope.NO);
            }
        }
    }

    private static void badNumbers() {
        badWhats();
        for (int w : new int[] {1, 10, 0, -4, Integer.MIN_VALUE, Integer.MAX_VALUE}) {
            refused("speeds(" + w + ")", r -> r.speeds(w), SkipRope.BAD);
        }
        for (int w : new int[] {-1, 121, Integer.MIN_VALUE, Integer.MAX_VALUE}) {
            refused("stay(" + w + ")", r -> r.stay(w), SkipRope.BAD);
            refused("pace(" + w + ")", r -> r.pace(w), SkipRope.BAD);
            refused("odds(" + w + ", 0, 0)", r -> r.odds(w, 0, 0), SkipRope.BAD);
            refused("odds(0, " + w + ", 0)", r -> r.odds(0, w, 0), SkipRope.BAD);
            refused("odds(0, 0, " + w + ")", r -> r.odds(0, 0, w), SkipRope.BAD);
            refused("sees(" + w + ", 0, 0)", r -> r.sees(w, 0, 0), SkipRope.BAD);
            refused("sees(1, " + w + ", 0)", r -> r.sees(1, w, 0), SkipRope.BAD);
            refused("sees(1, 0, " + w + ")", r -> r.sees(1, 0, w), SkipRope.BAD);
            refused("look(" + w + ")", r -> r.look(w), SkipRope.BAD);
        }
        refused("odds(11, 0, 0)", r -> r.odds(11, 0, 0), SkipRope.BAD);
        refused("odds(0, 61, 0)", r -> r.odds(0, 61, 0), SkipRope.BAD);
        refused("odds(0, 0, 2)", r -> r.odds(0, 0, 2), SkipRope.BAD);
        refused("sees(0, 0, 0)", r -> r.sees(0, 0, 0), SkipRope.BAD);
        refused("sees(5, 0, 0)", r -> r.sees(5, 0, 0), SkipRope.BAD);
        refused("sees(1, 41, 0)", r -> r.sees(1, 41, 0), SkipRope.BAD);
        refused("sees(1, 0, 2)", r -> r.sees(1, 0, 2), SkipRope.BAD);
        refused("look(0)", r -> r.look(0), SkipRope.BAD);
        refused("look(5)", r -> r.look(5), SkipRope.BAD);
    }

    private static void badWhats() {
        for (int w : new int[] {-1, 7, Integer.MIN_VALUE, Integer.MAX_VALUE}) {
            refused("jumper(0, " + w + ")", r -> r.jumper(0, w), SkipRope.BAD);
            refused("now(" + w + ")", r -> r.now(w), SkipRope.BAD);
            refused("ways(" + w + ")", r -> r.ways(w), SkipRope.BAD);
            refused("rate(" + w + ", 0)", r -> r.rate(w, 0), SkipRope.NO);
            refused("keep(" + w + ")", r -> r.keep(w), SkipRope.BAD);
            refused("back(" + w + ")", r -> r.back(w), SkipRope.BAD);
            refused("count(" + w + ")", r -> r.count(w), SkipRope.BAD);
        }
        refused("ways(2)", r -> r.ways(2), SkipRope.BAD);
        refused("rate(6, 0)", r -> r.rate(6, 0), SkipRope.NO);
        refused("keep(2)", r -> r.keep(2), SkipRope.BAD);
        refused("back(2)", r -> r.back(2), SkipRope.BAD);
        refused("count(3)", r -> r.count(3), SkipRope.BAD);
    }

    private static void ofANewObject() {
        badOnes(0);
        refused("speeds(4)", r -> r.speeds(4), SkipRope.STATE);
        refused("undo()", r -> r.undo(), SkipRope.STATE);
        refused("back(0)", r -> r.back(0), SkipRope.STATE);
        refused("back(1)", r -> r.back(1), SkipRope.STATE);
        compareTwins("new", SkipRope::new);
    }

    /** Of three JUMPERS the last is OUT, the second in the air; an IMAGE, a past, sights, and a text with a FAULT. */
    private static SkipRope inUse() {
        SkipRope rope = Check.yard("e5;j4 1 3 9;j6 4 2 7;j12 1 11 9;");
        rope.ticks();
        rope.keep(1);
        Check.ticks(rope, 2);
        rope.speeds(7);
        rope.goes(2);
        rope.sees(2, 5, 1);
        rope.sees(1, 3, 0);
        rope.rate(3, 1);
        Check.type(rope, "e2;j2 1 0 1; j5 4");
        return rope;
    }

    private static void ofAYardInUse() {
        badOnes(3);
        refused("yard()", r -> r.yard(), -10 - 17);
        refused("speeds(7)", r -> r.speeds(7), SkipRope.STATE);
        refused("goes(2)", r -> r.goes(2), SkipRope.STATE);
        for (int j = 0; j <= 1; j++) {
            int who = j;
            refused("comes(" + j + ", 0)", r -> r.comes(who, 0), SkipRope.STATE);
            refused("comes(" + j + ", 11)", r -> r.comes(who, 11), SkipRope.STATE);
            refused("entry(" + j + ")", r -> r.entry(who), SkipRope.STATE);
            refused("comes(" + j + ", 12), BAD ahead of STATE", r -> r.comes(who, 12), SkipRope.BAD);
            refused("comes(" + j + ", -1), BAD ahead of STATE", r -> r.comes(who, -1), SkipRope.BAD);
        }
        refused("comes(2, 12)", r -> r.comes(2, 12), SkipRope.BAD);
        refused("comes(2, -1)", r -> r.comes(2, -1), SkipRope.BAD);
        refused("back(0)", r -> r.back(0), SkipRope.STATE);
        compareTwins("in use", RefusedTest::inUse);
        theTextIsAsItWas();
    }

    /** What the comparison can't see of a text: its letters. */
    private static void theTextIsAsItWas() {
        SkipRope rope = inUse();
        check.due("yard", rope.yard(), -10 - 17);
        check.due("a refused letter", rope.type(256), SkipRope.BAD);
        check.due("yard", rope.yard(), -10 - 17);
        Check.type(rope, " 3 2;");
        check.due("yard, the text ended", rope.yard(), 3);
        check.due("period", rope.jumper(1, 0), 5);
        check.due("hang", rope.jumper(1, 1), 4);
        check.due("due", rope.jumper(1, 5), 3);
        check.due("wind", rope.jumper(1, 2), 2);
        check.due("EVERY", rope.now(1), 2);
    }

    /** 120 letters, six JUMPERS, six sights, ten that may be UNDONE, both IMAGES. */
    private static SkipRope full() {
        SkipRope rope = Check.yard("e9;" + "j2 4 0 60;".repeat(6));
        rope.keep(0);
        Check.ticks(rope, 11);
        rope.keep(1);
        for (int n = 0; n < 6; n++) {
            rope.sees(4, 40 - n, 1);
        }
        Check.type(rope, "x".repeat(120));
        return rope;
    }

    private static void ofAFullOne() {
        for (int letter : new int[] {0, ' ', ';', 255}) {
            refused("type(" + letter + ")", r -> r.type(letter), SkipRope.FULL);
        }
        for (int letter : new int[] {-1, 256, Integer.MIN_VALUE, Integer.MAX_VALUE}) {
            refused("type(" + letter + "), BAD ahead of FULL", r -> r.type(letter), SkipRope.BAD);
        }
        refused("sees(1, 0, 0)", r -> r.sees(1, 0, 0), SkipRope.FULL);
        refused("sees(4, 40, 1)", r -> r.sees(4, 40, 1), SkipRope.FULL);
        refused("sees(0, 0, 0), BAD ahead of FULL", r -> r.sees(0, 0, 0), SkipRope.BAD);
        refused("sees(1, 41, 0), BAD ahead of FULL", r -> r.sees(1, 41, 0), SkipRope.BAD);
        refused("sees(1, 0, 2), BAD ahead of FULL", r -> r.sees(1, 0, 2), SkipRope.BAD);
        refused("yard()", r -> r.yard(), -10);
        refused("speeds(9)", r -> r.speeds(9), SkipRope.STATE);
        refused("goes(6)", r -> r.goes(6), SkipRope.BAD);
        refused("comes(5, 0)", r -> r.comes(5, 0), SkipRope.STATE);
        refused("entry(5)", r -> r.entry(5), SkipRope.STATE);
        compareTwins("full", RefusedTest::full);
    }

    private static SkipRope nobodyIn() {
        SkipRope rope = Check.yard("e2;" + "j12 1 11 9;".repeat(3) + "j12 4 0 9;");
        Check.ticks(rope, 2);
        rope.goes(3);
        return rope;
    }

    private static void ofOneWithNobodyIn() {
        badOnes(4);
        for (int j = 0; j < 4; j++) {
            int who = j;
            refused("goes(" + j + ")", r -> r.goes(who), SkipRope.STATE);
            refused("comes(" + j + ", 12)", r -> r.comes(who, 12), SkipRope.BAD);
            refused("comes(" + j + ", -1)", r -> r.comes(who, -1), SkipRope.BAD);
        }
        refused("speeds(2)", r -> r.speeds(2), SkipRope.STATE);
        compareTwins("nobody in", RefusedTest::nobodyIn);
    }

    /** Beyond the 512 calls of an object, where answers are free: within them no object comes so far. */
    private static SkipRope atTheEnd() {
        SkipRope rope = Check.yard("j4 1 3 9;j4 1 3 9;");
        Check.ticks(rope, 990);
        rope.comes(1, 3);
        rope.keep(1);
        Check.ticks(rope, 9);
        return rope;
    }

    private static void ofTheTick999() {
        refused("ticks()", r -> r.ticks(), SkipRope.STATE);
        compareTwins("tick 999", RefusedTest::atTheEnd);
    }

    /** What it answers is told by other tests: here it is what a twin answers. */
    private static void asked(String name, ToLongFunction<SkipRope> made) {
        refused(name, made, made.applyAsLong(inUse()));
    }

    /** "(As things are NOW; nothing is changed ..)" */
    private static void whatIsAsked() {
        for (int what = 0; what <= 6; what++) {
            int of = what;
            asked("now(" + what + ")", r -> r.now(of));
            asked("jumper(0, " + what + ")", r -> r.jumper(0, of));
            asked("jumper(2, " + what + ")", r -> r.jumper(2, of));
        }
        for (int n : new int[] {0, 1, 17, 60, 120}) {
            asked("stay(" + n + ")", r -> r.stay(n));
            asked("pace(" + n + ")", r -> r.pace(n));
        }
        asked("entry(2)", r -> r.entry(2));
        for (int x = 0; x <= 10; x += 5) {
            int of = x;
            asked("odds(" + x + ", 60, 0)", r -> r.odds(of, 60, 0));
            asked("odds(" + x + ", 60, 1)", r -> r.odds(of, 60, 1));
        }
        asked("ways(0)", r -> r.ways(0));
        asked("ways(1)", r -> r.ways(1));
        for (int hang = 1; hang <= 4; hang++) {
            int of = hang;
            asked("look(" + hang + ")", r -> r.look(of));
        }
        for (int what = 0; what <= 2; what++) {
            int of = what;
            asked("count(" + what + ")", r -> r.count(of));
        }
        asked("trace()", r -> r.trace());
        compareTwins("asked", RefusedTest::inUse);
    }
}
