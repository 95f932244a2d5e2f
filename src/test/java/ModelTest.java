import java.util.Random;

/** All promises: runs of calls by chance (always the same ones), the class against the Model. */
public final class ModelTest {
    private static final Check check = new Check();
    private static final String LETTERS = "ej;0123456789 ej;  x";
    private static final int RUNS = 300;
    private static final int CALLS = 512;
    private static final int CALLS_OF_A_TEXT = 125;

    private final Random random;
    private final int run;
    private final SkipRope rope = new SkipRope();
    private final Model model = new Model();
    private int calls = 0;

    private ModelTest(int run) {
        this.run = run;
        this.random = new Random(run);
    }

    public static void main(String[] args) {
        for (int run = 0; run < RUNS; run++) {
            new ModelTest(run).go();
        }
        check.end();
    }

    private void due(String call, long got, long want) {
        calls++;
        check.due("run " + run + ", call " + calls + ": " + call, got, want);
    }

    private void go() {
        tell(goodText());
        while (calls < CALLS) {
            int chance = random.nextInt(100);
            if (chance < 2 && calls + CALLS_OF_A_TEXT <= CALLS) {
                tell(random.nextInt(3) == 0 ? goodText() : badText());
            } else if (chance < 50) {
                act();
            } else if (chance < 93) {
                ask();
            } else {
                seen();
            }
        }
    }

    private int from(int least, int most) {
        return least + random.nextInt(most - least + 1);
    }

    /** Mostly within the bounds, seldom just beside them or far off. */
    private int near(int least, int most) {
        int chance = random.nextInt(40);
        return switch (chance) {
            case 0 -> least - 1;
            case 1 -> most + 1;
            case 2 -> random.nextInt();
            case 3 -> least;
            case 4 -> most;
            default -> from(least, most);
        };
    }

    private String blanks() {
        return random.nextInt(6) == 0 ? "  " : "";
    }

    private String goodText() {
        StringBuilder text = new StringBuilder();
        int jumpers = from(1, 6);
        int every = random.nextInt(2) == 0 ? from(0, jumpers) : -1;
        int pace = from(2, 9);
        for (int j = 0; j <= jumpers; j++) {
            if (j == every) {
                text.append("e").append(blanks()).append(pace).append(blanks()).append(";");
            }
            if (j < jumpers) {
                // Half of them jump in time with the rope, or all would be out soon.
                boolean inTime = random.nextInt(2) == 0;
                int beat = every < 0 ? 4 : pace;
                int period = inTime ? beat : from(2, 12);
                int start = inTime ? beat - 1 : from(0, 11);
                text.append("j").append(blanks()).append(period).append(" ").append(from(1, 4)).append(" ")
                    .append(start).append(" ").append(from(1, 60)).append(blanks()).append(";");
            }
        }
        return text.toString();
    }

    private String badText() {
        StringBuilder text = new StringBuilder(random.nextInt(3) > 0 ? goodText() : "");
        int changes = from(1, 3);
        for (int i = 0; i < changes; i++) {
            int place = random.nextInt(text.length() + 1);
            char letter = random.nextInt(20) == 0 ? (char) random.nextInt(256)
                : LETTERS.charAt(random.nextInt(LETTERS.length()));
            if (random.nextInt(3) == 0 && place < text.length()) {
                text.deleteCharAt(place);
            } else {
                text.insert(place, letter);
            }
        }
        return text.toString();
    }

    private void tell(String text) {
        if (random.nextInt(4) > 0) {
            due("clear()", rope.clear(), model.clear());
        }
        for (char letter : text.toCharArray()) {
            due("type(" + (int) letter + ")", rope.type(letter), model.type(letter));
        }
        due("yard()", rope.yard(), model.yard());
    }

    private void act() {
        int j = near(0, 5);
        int d = near(0, 11);
        int e = near(2, 9);
        int image = near(0, 1);
        switch (random.nextInt(20)) {
            case 0 -> due("speeds(" + e + ")", rope.speeds(e), model.speeds(e));
            case 1 -> due("goes(" + j + ")", rope.goes(j), model.goes(j));
            case 2, 3, 4, 5, 6 -> due("comes(" + j + ", " + d + ")", rope.comes(j, d), model.comes(j, d));
            case 7, 8 -> due("undo()", rope.undo(), model.undo());
            case 9 -> due("keep(" + image + ")", rope.keep(image), model.keep(image));
            case 10 -> due("back(" + image + ")", rope.back(image), model.back(image));
            default -> due("ticks()", rope.ticks(), model.ticks());
        }
    }

    private void ask() {
        int j = near(0, 5);
        int what = near(0, 6);
        int n = near(0, random.nextBoolean() ? 15 : 120);
        int m = near(0, random.nextBoolean() ? 12 : 60);
        int x = near(0, 10);
        int two = near(0, 1);
        int kind = near(0, 5);
        int three = near(0, 2);
        switch (random.nextInt(10)) {
            case 0 -> due("now(" + what + ")", rope.now(what), model.now(what));
            case 1, 2 -> due("jumper(" + j + ", " + what + ")", rope.jumper(j, what), model.jumper(j, what));
            case 3 -> due("stay(" + n + ")", rope.stay(n), model.stay(n));
            case 4 -> due("pace(" + n + ")", rope.pace(n), model.pace(n));
            case 5 -> due("entry(" + j + ")", rope.entry(j), model.entry(j));
            case 6 -> due("odds(" + x + ", " + m + ", " + two + ")", rope.odds(x, m, two), model.odds(x, m, two));
            case 7 -> due("rate(" + kind + ", " + j + ")", rope.rate(kind, j), model.rate(kind, j));
            case 8 -> due("count(" + three + ")", rope.count(three), model.count(three));
            default -> due("trace()", rope.trace(), model.trace());
        }
    }

    private void seen() {
        int hang = near(1, 4);
        int t = near(0, 40);
        int up = near(0, 1);
        switch (random.nextInt(6)) {
            case 0, 1 -> due("sees(" + hang + ", " + t + ", " + up + ")", rope.sees(hang, t, up), model.sees(hang, t, up));
            case 2 -> {
                if (random.nextInt(3) == 0) {
                    due("forget()", rope.forget(), model.forget());
                }
            }
            case 3, 4 -> due("ways(" + up + ")", rope.ways(up), model.ways(up));
            default -> due("look(" + hang + ")", rope.look(hang), model.look(hang));
        }
    }
}
