import java.util.ArrayList;
import java.util.List;

/** What the tests share: answers are compared, wrong ones are told, and the program ends with 1 if there were any. */
final class Check {
    private int compared = 0;
    private int wrong = 0;

    void due(String call, long got, long want) {
        compared++;
        if (got != want) {
            wrong++;
            System.out.println(call + " answered " + got + ", due is " + want);
        }
    }

    void holds(String what, boolean so) {
        due(what, so ? 1 : 0, 1);
    }

    void end() {
        System.out.println(compared + " compared, " + wrong + " wrong");
        if (wrong != 0 || compared == 0) {
            System.exit(1);
        }
    }

    static void type(SkipRope rope, String text) {
        for (char letter : text.toCharArray()) {
            rope.type(letter);
        }
    }

    /** A yard as the text tells it. */
    static SkipRope yard(String text) {
        SkipRope rope = new SkipRope();
        type(rope, text);
        if (rope.yard() < 0) {
            System.out.println("the text of a test is faulty: " + text);
            System.exit(1);
        }
        return rope;
    }

    static void ticks(SkipRope rope, int n) {
        for (int i = 0; i < n; i++) {
            rope.ticks();
        }
    }

    /** All that can be asked without a change, but for TRACE, which rate() changes. */
    static List<Long> all(SkipRope rope) {
        List<Long> answers = new ArrayList<>();
        for (int what = 0; what <= 6; what++) {
            answers.add((long) rope.now(what));
            for (int j = 0; j < 6; j++) {
                answers.add((long) rope.jumper(j, what));
            }
        }
        for (int what = 0; what <= 2; what++) {
            answers.add((long) rope.count(what));
        }
        answers.add((long) rope.ways(0));
        answers.add((long) rope.ways(1));
        for (int hang = 1; hang <= 4; hang++) {
            answers.add((long) rope.look(hang));
        }
        answers.add(rope.trace());
        return answers;
    }
}
