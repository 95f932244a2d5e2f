import java.util.ArrayDeque;
import java.util.ArrayList;
import java.util.Deque;
import java.util.List;
import java.util.function.Consumer;
import java.util.regex.Matcher;
import java.util.regex.Pattern;

/**
 * The document once more, written another way than the class: ticks by their numbers, new objects at will,
 * all cases of the odds counted one by one. ModelTest compares the two.
 */
final class Model {
    private record Told(int period, int hang, int start, int wind) { }

    private static final class State {
        int tick = 0;
        int every = 4;
        int nextRope = 3;
        List<Told> told = new ArrayList<>();
        boolean[] in = new boolean[6];
        int[] upTill = new int[6];
        int[] nextDue = new int[6];
        int[] wind = new int[6];
        /** Whether he misses his next jump. */
        boolean[] misses = new boolean[6];

        State copy() {
            State s = new State();
            s.tick = tick;
            s.every = every;
            s.nextRope = nextRope;
            s.told = told;
            s.in = in.clone();
            s.upTill = upTill.clone();
            s.nextDue = nextDue.clone();
            s.wind = wind.clone();
            s.misses = misses.clone();
            return s;
        }

        int bits() {
            int b = 0;
            for (int j = 0; j < told.size(); j++) {
                b += in[j] ? 1 << j : 0;
            }
            return b;
        }

        int tickOn() {
            for (int j = 0; j < told.size(); j++) {
                if (in[j] && nextDue[j] == tick) {
                    if (misses[j]) {
                        misses[j] = false;
                    } else if (wind[j] > 0) {
                        wind[j]--;
                        upTill[j] = tick + told.get(j).hang;
                    }
                    nextDue[j] = tick + told.get(j).period;
                }
            }
            int tripped = 0;
            if (nextRope == tick) {
                for (int j = 0; j < told.size(); j++) {
                    if (in[j] && upTill[j] <= tick) {
                        tripped += 1 << j;
                        in[j] = false;
                    }
                }
                nextRope = tick + every + (tripped > 0 ? 1 : 0);
            }
            tick++;
            return tripped;
        }

        State turned(int e) {
            State s = copy();
            s.every = e;
            if (e != every && s.nextRope - s.tick + 1 > e) {
                s.nextRope = s.tick + e - 1;
            }
            return s;
        }

        State with(int j, int d) {
            State s = copy();
            s.in[j] = true;
            s.upTill[j] = s.tick;
            s.nextDue[j] = s.tick + d;
            return s;
        }

        State behind(int n) {
            State s = copy();
            for (int i = 0; i < n; i++) {
                s.tickOn();
            }
            return s;
        }

        int trip(int j) {
            for (int n = 1; n <= 120; n++) {
                if (!behind(n).in[j]) {
                    return n;
                }
            }
            return SkipRope.NONE;
        }
    }

    private record Seen(int hang, int t, boolean up) { }

    private record Way(int period, int start) {
        boolean up(int hang, int t) {
            for (int jump = start; jump <= t; jump += period) {
                if (t < jump + hang) {
                    return true;
                }
            }
            return false;
        }
    }

    private String text = "";
    private State state = new State();
    private final Deque<State> past = new ArrayDeque<>();
    private final State[] images = new State[2];
    private final List<Seen> seen = new ArrayList<>();
    private long trace = 0;

    int type(int letter) {
        if (letter < 0 || letter > 255) {
            return SkipRope.BAD;
        }
        if (text.length() == 120) {
            return SkipRope.FULL;
        }
        text += (char) letter;
        return text.length();
    }

    int clear() {
        int had = text.length();
        text = "";
        return had;
    }

    private record Token(String what, int place) { }

    private List<Token> tokens() {
        List<Token> tokens = new ArrayList<>();
        Matcher m = Pattern.compile("[0-9]+|[^ ]", Pattern.DOTALL).matcher(text);
        while (m.find()) {
            tokens.add(new Token(m.group(), m.start()));
        }
        tokens.add(new Token("", text.length()));
        return tokens;
    }

    private static boolean isNumber(Token token, int least, int most) {
        String what = token.what;
        if (!what.matches("0|[1-9][0-9]?")) {
            return false;
        }
        int value = Integer.parseInt(what);
        return least <= value && value <= most;
    }

    int yard() {
        State read = new State();
        List<Token> tokens = tokens();
        int at = 0;
        int items = 0;
        boolean every = false;
        while (!tokens.get(at).what.isEmpty()) {
            Token first = tokens.get(at);
            int[][] parts;
            if (first.what.equals("e") && !every) {
                every = true;
                parts = new int[][] {{2, 9}};
            } else if (first.what.equals("j") && read.told.size() < 6) {
                parts = new int[][] {{2, 12}, {1, 4}, {0, 11}, {1, 60}};
            } else {
                return -10 - first.place;
            }
            int[] values = new int[parts.length];
            for (int i = 0; i < parts.length; i++) {
                at++;
                if (!isNumber(tokens.get(at), parts[i][0], parts[i][1])) {
                    return -10 - tokens.get(at).place;
                }
                values[i] = Integer.parseInt(tokens.get(at).what);
            }
            at++;
            if (!tokens.get(at).what.equals(";")) {
                return -10 - tokens.get(at).place;
            }
            at++;
            items++;
            if (parts.length == 1) {
                read.every = values[0];
            } else {
                int j = read.told.size();
                read.told.add(new Told(values[0], values[1], values[2], values[3]));
                read.in[j] = true;
                read.nextDue[j] = values[2];
                read.wind[j] = values[3];
            }
        }
        read.nextRope = read.every - 1;
        state = read;
        text = "";
        past.clear();
        seen.clear();
        images[0] = null;
        images[1] = null;
        return items;
    }

    private boolean nobody(int j) {
        return j < 0 || j >= state.told.size();
    }

    int jumper(int j, int what) {
        if (nobody(j) || what < 0 || what > 6) {
            return SkipRope.BAD;
        }
        boolean in = state.in[j];
        return switch (what) {
            case 0 -> state.told.get(j).period;
            case 1 -> state.told.get(j).hang;
            case 2 -> state.wind[j];
            case 3 -> in ? 1 : 0;
            case 4 -> Math.max(0, state.upTill[j] - state.tick);
            case 5 -> in ? state.nextDue[j] - state.tick : SkipRope.NONE;
            default -> in ? state.trip(j) : SkipRope.NONE;
        };
    }

    int now(int what) {
        int first = SkipRope.NONE;
        int who = 0;
        for (int j = 0; what >= 4 && what <= 5 && j < state.told.size(); j++) {
            int trip = state.in[j] ? state.trip(j) : SkipRope.NONE;
            if (trip != SkipRope.NONE && (first == SkipRope.NONE || trip < first)) {
                first = trip;
                who = 0;
            }
            if (trip != SkipRope.NONE && trip == first) {
                who += 1 << j;
            }
        }
        return switch (what) {
            case 0 -> state.tick;
            case 1 -> state.every;
            case 2 -> state.nextRope - state.tick + 1;
            case 3 -> state.bits();
            case 4 -> first;
            case 5 -> who;
            case 6 -> past.size();
            default -> SkipRope.BAD;
        };
    }

    private void change(Consumer<State> how) {
        past.push(state.copy());
        if (past.size() > 10) {
            past.removeLast();
        }
        how.accept(state);
    }

    int ticks() {
        if (state.tick >= 999) {
            return SkipRope.STATE;
        }
        int before = state.bits();
        change(State::tickOn);
        return before - state.bits();
    }

    int speeds(int every) {
        if (every < 2 || every > 9) {
            return SkipRope.BAD;
        }
        int before = state.every;
        if (every == before) {
            return SkipRope.STATE;
        }
        change(s -> { });
        state = state.turned(every);
        return before;
    }

    int goes(int j) {
        if (nobody(j)) {
            return SkipRope.BAD;
        }
        if (!state.in[j]) {
            return SkipRope.STATE;
        }
        change(s -> s.in[j] = false);
        return Integer.bitCount(state.bits());
    }

    int comes(int j, int d) {
        if (nobody(j) || d < 0 || d > 11) {
            return SkipRope.BAD;
        }
        if (state.in[j]) {
            return SkipRope.STATE;
        }
        change(s -> { });
        state = state.with(j, d);
        return Integer.bitCount(state.bits());
    }

    int undo() {
        if (past.isEmpty()) {
            return SkipRope.STATE;
        }
        state = past.pop();
        return past.size();
    }

    int stay(int n) {
        return n < 0 || n > 120 ? SkipRope.BAD : state.behind(n).bits();
    }

    int pace(int n) {
        if (n < 0 || n > 120) {
            return SkipRope.BAD;
        }
        int best = 9;
        for (int e = 8; e >= 2; e--) {
            int most = Integer.bitCount(state.turned(best).behind(n).bits());
            if (Integer.bitCount(state.turned(e).behind(n).bits()) >= most) {
                best = e;
            }
        }
        return best;
    }

    int entry(int j) {
        if (nobody(j)) {
            return SkipRope.BAD;
        }
        if (state.in[j]) {
            return SkipRope.STATE;
        }
        int best = 11;
        int latest = 0;
        for (int d = 11; d >= 0; d--) {
            int trip = state.with(j, d).trip(j);
            int lasts = trip == SkipRope.NONE ? 121 : trip;
            if (lasts >= latest) {
                latest = lasts;
                best = d;
            }
        }
        return best;
    }

    int odds(int x, int n, int what) {
        if (x < 0 || x > 10 || n < 0 || n > 60 || what < 0 || what > 1) {
            return SkipRope.BAD;
        }
        int in = state.bits();
        int upper = 0;
        int lower = 1;
        for (int i = 0; i < Integer.bitCount(in); i++) {
            lower *= 10;
        }
        for (int missing = 0; missing < 64; missing++) {
            if ((missing & ~in) != 0) {
                continue;
            }
            State s = state.copy();
            int cases = 1;
            for (int j = 0; j < 6; j++) {
                s.misses[j] = (missing >> j & 1) == 1;
                if ((in >> j & 1) == 1) {
                    cases *= s.misses[j] ? x : 10 - x;
                }
            }
            upper += s.behind(n).bits() == in ? cases : 0;
        }
        for (int prime : new int[] {2, 5}) {
            while (upper > 0 && upper % prime == 0 && lower % prime == 0) {
                upper /= prime;
                lower /= prime;
            }
        }
        return what == 0 ? upper : upper == 0 ? 1 : lower;
    }

    int sees(int hang, int t, int up) {
        if (hang < 1 || hang > 4 || t < 0 || t > 40 || up < 0 || up > 1) {
            return SkipRope.BAD;
        }
        if (seen.size() == 6) {
            return SkipRope.FULL;
        }
        seen.add(new Seen(hang, t, up == 1));
        return seen.size();
    }

    int forget() {
        int was = seen.size();
        seen.clear();
        return was;
    }

    private List<Way> allWays() {
        List<Way> all = new ArrayList<>();
        for (int p = 2; p <= 12; p++) {
            for (int s = 0; s <= 11; s++) {
                Way way = new Way(p, s);
                if (seen.stream().allMatch(one -> way.up(one.hang, one.t) == one.up)) {
                    all.add(way);
                }
            }
        }
        return all;
    }

    int ways(int what) {
        List<Way> all = allWays();
        return switch (what) {
            case 0 -> all.size();
            case 1 -> all.isEmpty() ? SkipRope.NONE : all.get(0).period * 100 + all.get(0).start;
            default -> SkipRope.BAD;
        };
    }

    private static int greater(List<Way> all, int hang, int t) {
        int up = (int) all.stream().filter(way -> way.up(hang, t)).count();
        return Math.max(up, all.size() - up);
    }

    int look(int hang) {
        if (hang < 1 || hang > 4) {
            return SkipRope.BAD;
        }
        List<Way> all = allWays();
        if (all.size() <= 1) {
            return SkipRope.NONE;
        }
        int best = 40;
        for (int t = 39; t >= 0; t--) {
            if (greater(all, hang, t) <= greater(all, hang, best)) {
                best = t;
            }
        }
        return best;
    }

    int rate(int kind, int j) {
        if (kind < 0 || kind > 5 || nobody(j)) {
            return SkipRope.NO;
        }
        trace += new int[] {1, 11, 101, 1011, 10101, 100001}[kind];
        int wind = state.wind[j];
        int hang = state.told.get(j).hang;
        int rope = now(2);
        return new int[] {wind, wind + hang, wind - rope, 2 * (wind + hang), wind - rope + j, wind + state.tick}[kind];
    }

    int keep(int image) {
        if (image < 0 || image > 1) {
            return SkipRope.BAD;
        }
        images[image] = state.copy();
        return state.tick;
    }

    int back(int image) {
        if (image < 0 || image > 1) {
            return SkipRope.BAD;
        }
        if (images[image] == null) {
            return SkipRope.STATE;
        }
        state = images[image].copy();
        past.clear();
        return state.tick;
    }

    int count(int what) {
        return switch (what) {
            case 0 -> state.told.size();
            case 1 -> seen.size();
            case 2 -> text.length();
            default -> SkipRope.BAD;
        };
    }

    long trace() {
        return trace;
    }
}
