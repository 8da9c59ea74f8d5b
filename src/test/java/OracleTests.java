import java.util.ArrayDeque;
import java.util.ArrayList;
import java.util.Arrays;
import java.util.Deque;
import java.util.HashMap;
import java.util.HashSet;
import java.util.LinkedHashMap;
import java.util.List;
import java.util.Map;
import java.util.Random;
import java.util.Set;
import java.util.TreeMap;
import java.util.regex.Matcher;
import java.util.regex.Pattern;

/**
 * Long runs of told calls (a fixed seed each), every answer against that of a second program, which follows the
 * document's words by the Java library's own means and shares nothing with the first.
 */
public final class OracleTests {
    private static int wrong = 0;

    // ---- the second program

    /** order, bits, c1, c2, c3, in, shift, rounding, overflow, place. */
    private static final int[][] RANGES = {{1, 3}, {2, 5}, {-99, 99}, {-99, 99}, {-99, 99}, {-99, 99}, {0, 6}, {0, 4}, {0, 4}, {0, 1}};

    private static class Down {
        final List<Integer> trace = new ArrayList<>();
        int i = 0;
        int lifts(int x) { trace.add(10); return x + i; }
        int lowers(int x) { trace.add(11); return lifts(x) * 2; }
        int tells(int x) { trace.add(12); return lowers(x) - i; }
    }
    private static class Cut extends Down {
        int lowers(int x) { trace.add(20); return super.lowers(x) ^ 5; }
    }
    private static class Near extends Down {
        int lifts(int x) { trace.add(30); return -super.lifts(x); }
    }
    private static class Even extends Near {
        int tells(int x) { trace.add(40); return super.tells(x + 1); }
        int lifts(int x) { trace.add(41); return super.lifts(x) * 3; }
    }
    private static class Away extends Cut {
        int lowers(int x) { trace.add(50); return super.lowers(x) + lifts(2); }
    }

    private static class Wrap { }
    private static class Clip extends Wrap { }
    private static class Zero extends Wrap { }
    private static class Stay extends Clip { }
    private static class Halt extends Wrap { }
    private static final List<Class<?>> OVERFLOWS = List.of(Wrap.class, Clip.class, Zero.class, Stay.class, Halt.class);

    private record Outcome(int all, int v, int loss, boolean over, Integer out) { }
    private record Followed(List<Outcome> steps, Outcome halt, int overs, List<Integer> past) { }
    private record Change(int slot, int old, int now) { }

    private static int rounded(int kind, int shift, int v) {
        int unit = (int) Math.pow(2, shift);
        boolean isWhole = v % unit == 0;
        int near = Math.floorDiv(2 * v + unit, 2 * unit);
        switch (kind) {
            case 0: return Math.floorDiv(v, unit);
            case 1: return v / unit;
            case 2: return near;
            case 3: return 2 * Math.floorMod(v, unit) == unit && Math.floorMod(near, 2) == 1 ? near - 1 : near;
            default: return isWhole ? v / unit : v / unit + Integer.signum(v);
        }
    }

    private static Integer bounded(int kind, int bits, int v, int latest) {
        int half = (int) Math.pow(2, bits - 1);
        if (-half <= v && v <= half - 1) {
            return v;
        }
        switch (kind) {
            case 0: return Math.floorMod(v + half, 2 * half) - half;
            case 1: return Math.max(-half, Math.min(half - 1, v));
            case 2: return 0;
            case 3: return latest;
            default: return null;
        }
    }

    private static Outcome outcome(int[] numbers, List<Integer> past, int input) {
        List<Integer> products = new ArrayList<>();
        products.add(numbers[5] * input);
        for (int k = 0; k < numbers[0]; k++) {
            products.add(numbers[2 + k] * past.get(k));
        }
        int all = 0;
        int apart = 0;
        for (int product : products) {
            all += product;
            apart += rounded(numbers[7], numbers[6], product);
        }
        int v = numbers[9] == 1 ? apart : rounded(numbers[7], numbers[6], all);
        Integer out = bounded(numbers[8], numbers[1], v, past.get(0));
        boolean over = bounded(4, numbers[1], v, 0) == null;
        return new Outcome(all, v, v * (int) Math.pow(2, numbers[6]) - all, over, out);
    }

    private static List<Integer> pushed(List<Integer> past, int out) {
        List<Integer> next = new ArrayList<>();
        next.add(out);
        next.addAll(past.subList(0, past.size() - 1));
        return next;
    }

    private static int codeOf(int[] numbers, List<Integer> past) {
        int code = 0;
        for (int word : past) {
            code = code * (int) Math.pow(2, numbers[1]) + word + (int) Math.pow(2, numbers[1] - 1);
        }
        return code;
    }

    private static List<Integer> pastOf(int[] numbers, int code) {
        List<Integer> past = new ArrayList<>();
        int base = (int) Math.pow(2, numbers[1]);
        for (int k = 0; k < numbers[0]; k++) {
            past.add(0, code % base - base / 2);
            code /= base;
        }
        return past;
    }

    private static int startsOf(int[] numbers) {
        return (int) Math.pow(2, numbers[0] * numbers[1]);
    }

    private static final class Ways {
        final int[] next;
        final int[] tail;
        final int[] home;
        /** by the least code: the codes of a cycle from that on. */
        final TreeMap<Integer, List<Integer>> cycles = new TreeMap<>();
        final int[] latest;

        Ways(int[] numbers, int input) {
            int starts = startsOf(numbers);
            next = new int[starts];
            tail = new int[starts];
            home = new int[starts];
            latest = new int[starts];
            for (int code = 0; code < starts; code++) {
                List<Integer> past = pastOf(numbers, code);
                latest[code] = past.get(0);
                Outcome o = outcome(numbers, past, input);
                next[code] = o.out() == null ? -1 : codeOf(numbers, pushed(past, o.out()));
            }
            for (int code = 0; code < starts; code++) {
                // as many steps as there are pasts lead onto a cycle from anywhere
                int at = code;
                for (int i = 0; i < starts && at >= 0; i++) {
                    at = next[at];
                }
                home[code] = at < 0 ? -1 : at;
                if (at >= 0) {
                    List<Integer> round = new ArrayList<>();
                    int least = at;
                    int on = at;
                    do {
                        least = Math.min(least, on);
                        on = next[on];
                    } while (on != at);
                    home[code] = least;
                    if (!cycles.containsKey(least)) {
                        on = least;
                        do {
                            round.add(on);
                            on = next[on];
                        } while (on != least);
                        cycles.put(least, round);
                    }
                }
            }
            Set<Integer> onCycles = new HashSet<>();
            for (List<Integer> round : cycles.values()) {
                onCycles.addAll(round);
            }
            for (int code = 0; code < starts; code++) {
                int at = code;
                while (home[code] >= 0 && !onCycles.contains(at)) {
                    tail[code]++;
                    at = next[at];
                }
            }
        }

        int amplitude(List<Integer> round) {
            return round.stream().mapToInt(code -> Math.abs(latest[code])).max().getAsInt();
        }

        int loudest() {
            return cycles.values().stream().mapToInt(this::amplitude).max().orElse(99);
        }

        int stuck() {
            return (int) Arrays.stream(home).filter(h -> h < 0).count();
        }
    }

    private static final Map<String, Ways> DRAWN = new LinkedHashMap<>() {
        protected boolean removeEldestEntry(Map.Entry<String, Ways> eldest) { return size() > 300; }
    };

    private static Ways ways(int[] numbers, int input) {
        return DRAWN.computeIfAbsent(Arrays.toString(numbers) + input, key -> new Ways(numbers, input));
    }

    private static final class Model {
        int[] numbers = {2, 4, 0, 0, 0, 1, 0, 0, 0, 0};
        List<Integer> past = List.of(0, 0);
        int[] imageNumbers = null;
        List<Integer> imagePast = null;
        final Deque<Change> done = new ArrayDeque<>();
        final Deque<Change> undone = new ArrayDeque<>();
        final int[] sorts = {-1, -1, -1, -1};
        final long[][] rows = new long[4][];
        int[] causes = null;
        String tape = "";
        List<Integer> trace = List.of();
        int steps = 0;

        private int[] with(int slot, int v) {
            int[] other = numbers.clone();
            other[slot] = v;
            return other;
        }

        private int slot(int what, int number) {
            if (what == 2) {
                return number < 1 || number > 3 ? -1 : 1 + number;
            }
            return what == 0 || what == 1 ? what : what >= 3 && what <= 7 ? what + 2 : -1;
        }

        private void become(int slot, int v) {
            numbers = with(slot, v);
            if (slot < 2) {
                Integer[] zeros = new Integer[numbers[0]];
                Arrays.fill(zeros, 0);
                past = List.of(zeros);
            }
        }

        int set(int what, int number, int v) {
            int slot = slot(what, number);
            if (slot < 0 || v < RANGES[slot][0] || v > RANGES[slot][1]) {
                return -1001;
            }
            int[] other = with(slot, v);
            if (other[0] * other[1] > 10) {
                return -1005;
            }
            int was = numbers[slot];
            if (was != v) {
                undone.clear();
                done.push(new Change(slot, was, v));
                if (done.size() > 12) {
                    done.removeLast();
                }
                become(slot, v);
            }
            return was;
        }

        int of(int what, int number) {
            return slot(what, number) < 0 ? -1001 : numbers[slot(what, number)];
        }

        int past(int k, int v) {
            if (k < 1 || k > past.size() || bounded(4, numbers[1], v, 0) == null) {
                return -1001;
            }
            List<Integer> other = new ArrayList<>(past);
            int was = other.set(k - 1, v);
            past = other;
            return was;
        }

        int word(int k) {
            return k < 1 || k > past.size() ? -1001 : past.get(k - 1);
        }

        int step(int input) {
            if (!in(input)) {
                return -1001;
            }
            Outcome o = outcome(numbers, past, input);
            if (o.out() == null) {
                causes = new int[] {0, 0, o.v()};
                return -1005;
            }
            past = pushed(past, o.out());
            steps++;
            return o.out();
        }

        int would(int input, int what) {
            if (!in(input) || what < 0 || what > 4) {
                return -1000000;
            }
            Outcome o = outcome(numbers, past, input);
            return what == 0 ? o.out() == null ? -1005 : o.out() : what == 1 ? o.all() : what == 2 ? o.v() : what == 3 ? o.loss() : o.over() ? 1 : 0;
        }

        int roundedCall(int rounding, int shift, int v) {
            return !kind(rounding) || shift < 0 || shift > 6 || Math.abs((long) v) > 100000 ? -1000000 : rounded(rounding, shift, v);
        }

        int boundedCall(int overflow, int v) {
            if (!kind(overflow) || Math.abs((long) v) > 100000) {
                return -1001;
            }
            Integer word = bounded(overflow, numbers[1], v, past.get(0));
            return word == null ? -1005 : word;
        }

        private Followed follow(int[] by, int row) {
            List<Outcome> steps = new ArrayList<>();
            List<Integer> at = past;
            int overs = 0;
            for (long number : rows[row]) {
                Outcome o = outcome(by, at, (int) Math.max(-99, Math.min(99, number)));
                overs += o.over() ? 1 : 0;
                if (o.out() == null) {
                    return new Followed(steps, o, overs, at);
                }
                steps.add(o);
                at = pushed(at, o.out());
            }
            return new Followed(steps, null, overs, at);
        }

        int output(int row, int k) {
            if (!row(row)) {
                return -1001;
            }
            if (rows[row] == null) {
                return -1011;
            }
            List<Outcome> steps = follow(numbers, row).steps();
            return k < 0 || k >= steps.size() ? -1002 : steps.get(k).out();
        }

        int run(int row, int what) {
            if (!row(row) || what < 0 || what > 2) {
                return -1;
            }
            if (rows[row] == null) {
                return -11;
            }
            Followed f = follow(numbers, row);
            return what == 0 ? f.steps().size() : what == 1 ? f.overs() : f.halt() != null ? 1 : 0;
        }

        int go(int row) {
            if (!row(row)) {
                return -1;
            }
            if (rows[row] == null) {
                return -11;
            }
            Followed f = follow(numbers, row);
            past = f.past();
            steps += f.steps().size();
            if (f.halt() != null) {
                causes = new int[] {f.steps().size(), 0, f.halt().v()};
            }
            return f.steps().size();
        }

        private static long[] lowest(long above, long below) {
            long a = Math.abs(above);
            long b = below;
            while (b != 0) {
                long rest = a % b;
                a = b;
                b = rest;
            }
            return new long[] {above / a, below / a};
        }

        private long unit() {
            return 1L << numbers[6];
        }

        long noise(int row, int part) {
            if (!row(row) || part < 0 || part > 1 || rows[row] == null) {
                return Long.MIN_VALUE;
            }
            long sum = 0;
            for (Outcome o : follow(numbers, row).steps()) {
                sum += Math.abs(o.loss());
            }
            return lowest(sum, unit())[part];
        }

        private Map<List<Long>, Integer> levelsOf(int row) {
            Map<List<Long>, Integer> levels = new LinkedHashMap<>();
            for (Outcome o : follow(numbers, row).steps()) {
                long[] f = lowest(o.loss(), unit());
                levels.merge(List.of(f[0], f[1]), 1, Integer::sum);
            }
            return levels;
        }

        int levels(int row) {
            return !row(row) ? -1 : rows[row] == null ? -11 : levelsOf(row).size();
        }

        int level(int row, int k, int what) {
            if (!row(row) || what < 0 || what > 2 || rows[row] == null || k < 0 || k >= levelsOf(row).size()) {
                return -1000000;
            }
            Map.Entry<List<Long>, Integer> level = new ArrayList<>(levelsOf(row).entrySet()).get(k);
            return what == 2 ? level.getValue() : level.getKey().get(what).intValue();
        }

        long measure(int row, int unit) {
            if (!row(row) || unit < 1 || unit > 2000000000 || rows[row] == null) {
                return Long.MIN_VALUE;
            }
            Followed f = follow(numbers, row);
            long sum = 0;
            for (int i = 0; i < f.steps().size(); i++) {
                int out = f.steps().get(i).out();
                long square = (long) out * out * unit;
                if (square != (int) square) {
                    causes = new int[] {i, 1, out};
                    return Long.MIN_VALUE + 1;
                }
                sum += square;
                if (sum != (int) sum) {
                    causes = new int[] {i, 2, (int) square};
                    return Long.MIN_VALUE + 1;
                }
            }
            if (f.halt() != null) {
                causes = new int[] {f.steps().size(), 0, f.halt().v()};
                return Long.MIN_VALUE + 1;
            }
            return sum;
        }

        int cause(int k) {
            return k < 0 || k > 2 ? -1000000 : causes == null ? -1002 : causes[k];
        }

        int next(int code, int input) {
            if (code < 0 || code >= startsOf(numbers) || !in(input)) {
                return -1;
            }
            int next = ways(numbers, input).next[code];
            return next < 0 ? -5 : next;
        }

        int leads(int code, int input, int what) {
            if (code < 0 || code >= startsOf(numbers) || !in(input) || what < 0 || what > 2) {
                return -1;
            }
            Ways w = ways(numbers, input);
            if (w.home[code] < 0) {
                return -5;
            }
            return what == 0 ? w.tail[code] : what == 1 ? w.cycles.get(w.home[code]).size() : w.cycles.headMap(w.home[code]).size();
        }

        int cycles(int input, int what) {
            if (!in(input) || what < 0 || what > 4) {
                return -1;
            }
            Ways w = ways(numbers, input);
            switch (what) {
                case 0: return w.cycles.size();
                case 1: return w.stuck();
                case 2: return Arrays.stream(w.tail).max().getAsInt();
                case 3: return w.loudest();
                default: return w.cycles.values().stream().mapToInt(List::size).sum();
            }
        }

        private List<Integer> round(int input, int k) {
            List<List<Integer>> rounds = new ArrayList<>(ways(numbers, input).cycles.values());
            return k < 0 || k >= rounds.size() ? null : rounds.get(k);
        }

        int cycle(int input, int k, int what) {
            if (!in(input) || what < 0 || what > 3) {
                return -1;
            }
            List<Integer> round = round(input, k);
            if (round == null) {
                return -2;
            }
            Ways w = ways(numbers, input);
            switch (what) {
                case 0: return round.get(0);
                case 1: return round.size();
                case 2: return w.amplitude(round);
                default: return (int) Arrays.stream(w.home).filter(h -> h == round.get(0)).count();
            }
        }

        int onCycle(int input, int k, int i) {
            if (!in(input) || i < 0) {
                return -1;
            }
            List<Integer> round = round(input, k);
            return round == null ? -2 : round.get(i % round.size());
        }

        private int[] reachOf(int b) {
            Set<List<Integer>> found = new HashSet<>();
            Deque<List<Integer>> open = new ArrayDeque<>();
            List<Integer> zero = new ArrayList<>(past);
            zero.replaceAll(word -> 0);
            found.add(zero);
            open.add(zero);
            int over = 0;
            while (!open.isEmpty()) {
                List<Integer> at = open.remove();
                for (int input = -b; input <= b; input++) {
                    Outcome o = outcome(numbers, at, input);
                    over |= o.over() ? 1 : 0;
                    if (o.out() != null && found.add(pushed(at, o.out()))) {
                        open.add(pushed(at, o.out()));
                    }
                }
            }
            return new int[] {found.size(), over};
        }

        int reach(int b, int what) {
            return b < 0 || b > 20 || what < 0 || what > 1 ? -1 : reachOf(b)[what];
        }

        int scale(int b) {
            if (b < 0 || b > 20) {
                return -1;
            }
            for (int k = 0; k <= 6; k++) {
                if (reachOf((int) (b / Math.pow(2, k)))[1] == 0) {
                    return k;
                }
            }
            return -2;
        }

        int quietest(int input, int what) {
            if (!in(input) || what < 0 || what > 1) {
                return -1;
            }
            int[] loudest = new int[5];
            for (int rounding = 0; rounding < 5; rounding++) {
                loudest[rounding] = ways(with(7, rounding), input).loudest();
            }
            int least = Arrays.stream(loudest).min().getAsInt();
            int first = 0;
            while (loudest[first] != least) {
                first++;
            }
            return what == 0 ? first : least;
        }

        int tamed(int input, int a) {
            if (!in(input) || a < 0 || a > 99) {
                return -1001;
            }
            for (int v = 99; v >= -99; v--) {
                Ways w = new Ways(with(2, v), input);
                if (w.stuck() == 0 && w.loudest() <= a) {
                    return v;
                }
            }
            return -1002;
        }

        long lost(int input, int part) {
            if (!in(input) || part < 0 || part > 1) {
                return Long.MIN_VALUE;
            }
            long sum = 0;
            for (int code = 0; code < startsOf(numbers); code++) {
                sum += Math.abs(outcome(numbers, pastOf(numbers, code), input).loss());
            }
            return lowest(sum, unit() * startsOf(numbers))[part];
        }

        int fits(int in, int out, int what) {
            if (!row(in) || !row(out) || what < 0 || what > 5) {
                return -1001;
            }
            if (rows[in] == null || rows[out] == null) {
                return -1011;
            }
            int slot = what == 0 ? 7 : what == 1 ? 8 : what == 2 ? 6 : what == 3 ? 9 : 2;
            List<Integer> fit = new ArrayList<>();
            for (int v = RANGES[slot][0]; v <= RANGES[slot][1]; v++) {
                List<Long> made = new ArrayList<>();
                for (Outcome o : follow(with(slot, v), in).steps()) {
                    made.add((long) o.out());
                }
                List<Long> told = new ArrayList<>();
                for (long number : rows[out]) {
                    told.add(number);
                }
                if (made.size() >= told.size() && made.subList(0, told.size()).equals(told)) {
                    fit.add(v);
                }
            }
            if (what < 4) {
                return fit.stream().mapToInt(v -> 1 << v).sum();
            }
            return what == 4 ? fit.size() : fit.isEmpty() ? -1002 : fit.get(0);
        }

        int judge(int in, int out) {
            if (!row(in) || !row(out)) {
                return -1;
            }
            if (rows[in] == null || rows[out] == null) {
                return -11;
            }
            List<Outcome> made = follow(numbers, in).steps();
            for (int i = 0; i < rows[out].length; i++) {
                if (i >= made.size() || made.get(i).out() != rows[out][i]) {
                    return i;
                }
            }
            return rows[out].length < made.size() ? 100 + rows[out].length : -2;
        }

        int feed(int letter) {
            if (letter < 32 || letter > 126) {
                return -1;
            }
            if (tape.length() == 80) {
                return -3;
            }
            tape += (char) letter;
            return tape.length();
        }

        int wipe() {
            int had = tape.length();
            tape = "";
            return had;
        }

        private static final Pattern TEXT;
        static {
            String number = "-?[0-9]{1,2}";
            String act = "(?:[nbisropx]" + number + "|[cy]" + number + "," + number + ")";
            TEXT = Pattern.compile(act + "(?:;" + act + ")*");
        }

        int read() {
            String text = tape;
            tape = "";
            for (int i = 0; i < text.length(); i++) {
                Matcher m = TEXT.matcher(text.substring(0, i + 1));
                if (!m.matches() && !m.hitEnd()) {
                    return -100 - i;
                }
            }
            if (!TEXT.matcher(text).matches()) {
                return -100 - text.length();
            }
            String[] acts = text.split(";");
            for (int i = 0; i < acts.length; i++) {
                String[] told = acts[i].substring(1).split(",");
                int first = Integer.parseInt(told[0]);
                int second = told.length > 1 ? Integer.parseInt(told[1]) : 0;
                int answer;
                switch (acts[i].charAt(0)) {
                    case 'n': answer = set(0, 0, first); break;
                    case 'b': answer = set(1, 0, first); break;
                    case 'c': answer = set(2, first, second); break;
                    case 'i': answer = set(3, 0, first); break;
                    case 's': answer = set(4, 0, first); break;
                    case 'r': answer = set(5, 0, first); break;
                    case 'o': answer = set(6, 0, first); break;
                    case 'p': answer = set(7, 0, first); break;
                    case 'y': answer = past(first, second); break;
                    default: answer = step(first);
                }
                if (answer == -1001 || answer == -1005) {
                    return -200 - i;
                }
            }
            return acts.length;
        }

        int row(int row, int sort, int n) {
            if (!row(row) || sort < -1 || sort > 2) {
                return -1;
            }
            if (sort == -1) {
                rows[row] = null;
                sorts[row] = -1;
                return 1;
            }
            if (n > 40) {
                return -1;
            }
            if (n < 0) {
                return -14;
            }
            rows[row] = new long[n];
            sorts[row] = sort;
            return 1;
        }

        private long narrowed(int row, long v) {
            return sorts[row] == 0 ? (byte) v : sorts[row] == 1 ? (int) v : v;
        }

        int put(int row, int i, long v) {
            if (!row(row)) {
                return -1;
            }
            if (rows[row] == null) {
                return -11;
            }
            if (i < 0 || i >= rows[row].length) {
                return -13;
            }
            rows[row][i] = narrowed(row, v);
            return 1;
        }

        long get(int row, int i) {
            return !row(row) || rows[row] == null || i < 0 || i >= rows[row].length ? Long.MIN_VALUE : rows[row][i];
        }

        int film(int row, int sort, int in) {
            if (!row(row) || !row(in) || sort < 0 || sort > 2) {
                return -1;
            }
            if (rows[in] == null) {
                return -11;
            }
            rows[row] = follow(numbers, in).steps().stream().mapToLong(o -> o.out()).toArray();
            sorts[row] = sort;
            return rows[row].length;
        }

        int copy(int row, int i, int other, int j, int n) {
            if (!row(row) || !row(other)) {
                return -1;
            }
            if (rows[row] == null || rows[other] == null) {
                return -11;
            }
            if (sorts[row] != sorts[other]) {
                return -12;
            }
            if (n < 0 || i < 0 || j < 0 || (long) i + n > rows[row].length || (long) j + n > rows[other].length) {
                return -13;
            }
            long[] were = rows[row].clone();
            for (int k = 0; k < n; k++) {
                rows[other][j + k] = were[i + k];
            }
            return n;
        }

        int act(int rounding, int act, int x) {
            if (!kind(rounding) || act < 0 || act > 2) {
                return 0;
            }
            Down own = List.of(new Down(), new Cut(), new Near(), new Even(), new Away()).get(rounding);
            own.i = rounding;
            int answer = act == 0 ? own.lifts(x) : act == 1 ? own.lowers(x) : own.tells(x);
            trace = own.trace.subList(0, Math.min(24, own.trace.size()));
            return answer;
        }

        int trace(int i) {
            return i < 0 || i >= trace.size() ? -2 : trace.get(i);
        }

        int isUnder(int overflow, int k) {
            return !kind(overflow) || !kind(k) ? -1 : OVERFLOWS.get(k).isAssignableFrom(OVERFLOWS.get(overflow)) ? 1 : 0;
        }

        int undo() {
            if (done.isEmpty()) {
                return -5;
            }
            Change change = done.pop();
            undone.push(change);
            become(change.slot(), change.old());
            return done.size();
        }

        int redo() {
            if (undone.isEmpty()) {
                return -5;
            }
            Change change = undone.pop();
            done.push(change);
            become(change.slot(), change.now());
            return undone.size();
        }

        int image() {
            imageNumbers = numbers;
            imagePast = past;
            return codeOf(numbers, past);
        }

        int alike() {
            return imageNumbers == null ? -5 : Arrays.equals(imageNumbers, numbers) && imagePast.equals(past) ? 1 : 0;
        }

        int back() {
            if (imageNumbers == null) {
                return -5;
            }
            numbers = imageNumbers;
            past = imagePast;
            done.clear();
            undone.clear();
            return codeOf(numbers, past);
        }

        int count(int what) {
            switch (what) {
                case 0: return done.size();
                case 1: return undone.size();
                case 2: return tape.length();
                case 3: return (int) Arrays.stream(rows).filter(row -> row != null).count();
                case 4: return steps;
                default: return -1;
            }
        }

        private static boolean in(int input) {
            return Math.abs((long) input) <= 99;
        }

        private static boolean kind(int kind) {
            return kind >= 0 && kind <= 4;
        }

        private static boolean row(int row) {
            return row >= 0 && row <= 3;
        }
    }

    // ---- the runs of calls

    private static final int[] EDGES = {Integer.MIN_VALUE, Integer.MIN_VALUE + 1, -100001, -1000, -100, -1, 100, 1000, 1024, 100001, Integer.MAX_VALUE - 1, Integer.MAX_VALUE};

    private static final class Chance {
        final Random random;

        Chance(long seed) {
            random = new Random(seed);
        }

        boolean one(int of) {
            return random.nextInt(of) == 0;
        }

        /** Mostly from .. to, now and then next to it or far from it. */
        int about(int from, int to) {
            if (one(40)) {
                return EDGES[random.nextInt(EDGES.length)];
            }
            if (one(20)) {
                return one(2) ? from - 1 : to + 1;
            }
            return from + random.nextInt(to - from + 1);
        }

        int input() {
            return one(2) ? about(-9, 9) : about(-99, 99);
        }

        /** Small ones more often: they keep a filter from being over all the time. */
        int coefficient() {
            return one(3) ? about(-99, 99) : about(-9, 9);
        }
    }

    private static String told;
    /** How many calls the object has had: beyond 512 the document leaves its answers free. */
    private static int made = 0;

    private static void due(int seed, int call, String what, long got, long want, int... arguments) {
        made++;
        told = what + Arrays.toString(arguments);
        if (got != want) {
            wrong++;
            if (wrong < 30) {
                System.out.println("seed " + seed + ", call " + call + ": " + told + " answered " + got + ", due is " + want);
            }
        }
    }

    private static void setSomething(int seed, int call, CutOffFilter x, Model m, Chance c) {
        int what = c.about(0, 7);
        int number = c.about(1, 3);
        int v;
        switch (what) {
            case 0: v = c.about(1, 3); break;
            case 1: v = c.one(3) ? c.about(2, 5) : c.about(2, 4); break;
            case 4: v = c.about(0, 6); break;
            case 5: case 6: v = c.about(0, 4); break;
            case 7: v = c.about(0, 1); break;
            default: v = c.coefficient();
        }
        due(seed, call, "set", x.set(what, number, v), m.set(what, number, v), what, number, v);
    }

    private static final String[] PIECES = {"n", "b", "c", "i", "s", "r", "o", "p", "y", "x", ";", ";", ",", "-", "0", "1", "2", "3", "9", " ", "z", "+"};

    private static String someAct(Chance c) {
        switch (c.random.nextInt(10)) {
            case 0: return "n" + c.random.nextInt(4);
            case 1: return "b" + c.random.nextInt(6);
            case 2: return "c" + c.random.nextInt(5) + "," + (c.random.nextInt(199) - 99);
            case 3: return "i" + (c.random.nextInt(199) - 99);
            case 4: return "s0" + c.random.nextInt(8);
            case 5: return "r" + c.random.nextInt(6);
            case 6: return "o" + c.random.nextInt(6);
            case 7: return "p" + c.random.nextInt(3);
            case 8: return "y" + (1 + c.random.nextInt(3)) + "," + (c.random.nextInt(12) - 6);
            default: return "x" + (c.random.nextInt(41) - 20);
        }
    }

    private static void readSomething(int seed, int call, CutOffFilter x, Model m, Chance c) {
        StringBuilder text = new StringBuilder(someAct(c));
        int more = c.random.nextInt(c.one(6) ? 24 : 5);
        for (int i = 0; i < more; i++) {
            text.append(';').append(someAct(c));
        }
        if (c.one(3)) {
            int at = c.random.nextInt(text.length() + 1);
            text.replace(at, Math.min(text.length(), at + c.random.nextInt(3)), PIECES[c.random.nextInt(PIECES.length)]);
        }
        for (int i = 0; i < text.length(); i++) {
            due(seed, call, "feed", x.feed(text.charAt(i)), m.feed(text.charAt(i)), text.charAt(i));
        }
        due(seed, call, "count", x.count(2), m.count(2), 2);
        due(seed, call, "read of " + text, x.read(), m.read());
    }

    /** What only the first program would show later, if a call had changed what it should not. */
    private static void compareState(int seed, int call, CutOffFilter x, Model m) {
        for (int what = 0; what < 8; what++) {
            for (int number = 1; number <= (what == 2 ? 3 : 1); number++) {
                due(seed, call, "of behind " + told, x.of(what, number), m.of(what, number), what, number);
            }
        }
        for (int k = 0; k < 5; k++) {
            due(seed, call, "word behind " + told, x.word(k), m.word(k), k);
            due(seed, call, "count behind " + told, x.count(k), m.count(k), k);
            due(seed, call, "cause behind " + told, x.cause(k), m.cause(k), k);
        }
        due(seed, call, "code", x.code(), codeOf(m.numbers, m.past));
        due(seed, call, "starts", x.starts(), startsOf(m.numbers));
        due(seed, call, "alike", x.alike(), m.alike());
        for (int row = 0; row < 4; row++) {
            for (int i = 0; i < 41; i++) {
                due(seed, call, "get behind " + told, x.get(row, i), m.get(row, i), row, i);
            }
        }
        for (int i = -1; i < 26; i++) {
            due(seed, call, "trace behind " + told, x.trace(i), m.trace(i), i);
        }
    }

    private static void ordinaryCall(int seed, int call, CutOffFilter x, Model m, Chance c) {
        int a = c.about(0, 3);
        int b = c.about(0, 3);
        int i = c.about(0, 8);
        int input = c.input();
        int v;
        switch (c.random.nextInt(30)) {
            case 0: case 1: case 2: setSomething(seed, call, x, m, c); return;
            case 3: v = c.about(-8, 8); due(seed, call, "past", x.past(a, v), m.past(a, v), a, v); return;
            case 4: due(seed, call, "word", x.word(a), m.word(a), a); return;
            case 5: case 6: due(seed, call, "step", x.step(input), m.step(input), input); return;
            case 7: v = c.about(0, 4); due(seed, call, "would", x.would(input, v), m.would(input, v), input, v); return;
            case 8: {
                int kind = c.about(0, 4);
                int shift = c.about(0, 6);
                v = c.one(3) ? c.about(-100000, 100000) : c.about(-200, 200);
                due(seed, call, "rounded", x.rounded(kind, shift, v), m.roundedCall(kind, shift, v), kind, shift, v);
                return;
            }
            case 9: {
                int kind = c.about(0, 4);
                v = c.one(3) ? c.about(-100000, 100000) : c.about(-40, 40);
                due(seed, call, "bounded", x.bounded(kind, v), m.boundedCall(kind, v), kind, v);
                return;
            }
            case 10: due(seed, call, "output", x.output(a, i), m.output(a, i), a, i); return;
            case 11: v = c.about(0, 2); due(seed, call, "run", x.run(a, v), m.run(a, v), a, v); return;
            case 12: due(seed, call, "go", x.go(a), m.go(a), a); return;
            case 13: v = c.about(0, 1); due(seed, call, "noise", x.noise(a, v), m.noise(a, v), a, v); return;
            case 14: due(seed, call, "levels", x.levels(a), m.levels(a), a); return;
            case 15: v = c.about(0, 2); due(seed, call, "level", x.level(a, i, v), m.level(a, i, v), a, i, v); return;
            case 16: {
                int unit = c.one(2) ? c.about(1, 2000000000) : c.about(1, 20000000);
                due(seed, call, "measure", x.measure(a, unit), m.measure(a, unit), a, unit);
                return;
            }
            case 17: v = c.about(0, 2); due(seed, call, "cause", x.cause(v), m.cause(v), v); return;
            case 18: v = c.about(0, 5); due(seed, call, "fits", x.fits(a, b, v), m.fits(a, b, v), a, b, v); return;
            case 19: due(seed, call, "judge", x.judge(a, b), m.judge(a, b), a, b); return;
            case 20: {
                int sort = c.about(-1, 2);
                int n = c.one(3) ? c.about(0, 40) : c.about(0, 8);
                due(seed, call, "row", x.row(a, sort, n), m.row(a, sort, n), a, sort, n);
                return;
            }
            case 21: case 22: case 23: {
                long number = c.one(10) ? c.random.nextLong() : input;
                due(seed, call, "put " + number, x.put(a, i, number), m.put(a, i, number), a, i);
                return;
            }
            case 24: v = c.about(0, 2); due(seed, call, "film", x.film(a, v, b), m.film(a, v, b), a, v, b); return;
            case 25: {
                int j = c.about(0, 6);
                int n = c.about(0, 6);
                due(seed, call, "copy", x.copy(a, i, b, j, n), m.copy(a, i, b, j, n), a, i, b, j, n);
                return;
            }
            case 26: {
                int kind = c.about(0, 4);
                int act = c.about(0, 2);
                v = c.one(2) ? c.random.nextInt() : c.about(-99, 99);
                due(seed, call, "act", x.act(kind, act, v), m.act(kind, act, v), kind, act, v);
                return;
            }
            case 27: v = c.about(0, 4); due(seed, call, "isUnder", x.isUnder(v, i), m.isUnder(v, i), v, i); return;
            case 28: {
                switch (c.random.nextInt(8)) {
                    case 0: case 1: case 2: due(seed, call, "undo", x.undo(), m.undo()); return;
                    case 3: case 4: due(seed, call, "redo", x.redo(), m.redo()); return;
                    case 5: due(seed, call, "image", x.image(), m.image()); return;
                    case 6: due(seed, call, "alike", x.alike(), m.alike()); return;
                    default: due(seed, call, "back", x.back(), m.back()); return;
                }
            }
            default: {
                if (c.one(2)) {
                    readSomething(seed, call, x, m, c);
                } else if (c.one(2)) {
                    v = c.about(32, 126);
                    due(seed, call, "feed", x.feed(v), m.feed(v), v);
                } else if (c.one(2)) {
                    due(seed, call, "wipe", x.wipe(), m.wipe());
                } else {
                    due(seed, call, "read", x.read(), m.read());
                }
            }
        }
    }

    private static void allStartsCall(int seed, int call, CutOffFilter x, Model m, Chance c) {
        int input = c.one(3) ? c.input() : c.about(-2, 2);
        int code = c.one(3) ? c.about(0, 1023) : c.about(0, startsOf(m.numbers) - 1);
        int k = c.about(0, 6);
        int what = c.about(0, 4);
        int b = c.one(2) ? c.about(0, 20) : c.about(0, 4);
        switch (c.random.nextInt(10)) {
            case 0: due(seed, call, "next", x.next(code, input), m.next(code, input), code, input); return;
            case 1: due(seed, call, "leads", x.leads(code, input, what), m.leads(code, input, what), code, input, what); return;
            case 2: due(seed, call, "cycles", x.cycles(input, what), m.cycles(input, what), input, what); return;
            case 3: due(seed, call, "cycle", x.cycle(input, k, what), m.cycle(input, k, what), input, k, what); return;
            case 4: {
                int i = c.about(0, 50);
                due(seed, call, "onCycle", x.onCycle(input, k, i), m.onCycle(input, k, i), input, k, i);
                return;
            }
            case 5: what = c.about(0, 1); due(seed, call, "reach", x.reach(b, what), m.reach(b, what), b, what); return;
            case 6: due(seed, call, "scale", x.scale(b), m.scale(b), b); return;
            case 7: what = c.about(0, 1); due(seed, call, "quietest", x.quietest(input, what), m.quietest(input, what), input, what); return;
            case 8: {
                if (!c.one(startsOf(m.numbers) > 64 ? 12 : 2)) {
                    return;
                }
                int a = c.one(4) ? c.about(0, 99) : c.about(0, 16);
                due(seed, call, "tamed", x.tamed(input, a), m.tamed(input, a), input, a);
                return;
            }
            default: what = c.about(0, 1); due(seed, call, "lost", x.lost(input, what), m.lost(input, what), input, what);
        }
    }

    /** A text of 25 ACTS, count() and read() can come behind the last look at made, then the calls of compareState(). */
    private static final int MOST_CALLS = 512, LONGEST_TEXT = 180, COMPARED = 240;

    private static void runCalls(int seed) {
        CutOffFilter x = new CutOffFilter();
        Model m = new Model();
        Chance c = new Chance(seed);
        made = 0;
        // some end early, so that what only a later call would cover up is compared, too
        int end = MOST_CALLS - LONGEST_TEXT - (c.one(8) ? 0 : COMPARED);
        int calls = c.one(2) ? end : 1 + c.random.nextInt(end);
        boolean isCompared = calls <= MOST_CALLS - LONGEST_TEXT - COMPARED;
        boolean isNarrow = seed % 3 == 0;
        if (isNarrow) {
            due(seed, 0, "set", x.set(1, 0, 2), m.set(1, 0, 2), 1, 0, 2);
        }
        for (int call = 1; made < calls && wrong == 0; call++) {
            if (c.one(4)) {
                allStartsCall(seed, call, x, m, c);
            } else {
                ordinaryCall(seed, call, x, m, c);
            }
        }
        if (isCompared) {
            compareState(seed, calls, x, m);
        }
        if (made > MOST_CALLS) {
            wrong++;
            System.out.println("seed " + seed + ": " + made + " calls of one object");
        }
    }

    public static void main(String[] arguments) {
        int seeds = arguments.length > 0 ? Integer.parseInt(arguments[0]) : 1000;
        int from = arguments.length > 1 ? Integer.parseInt(arguments[1]) : 0;
        for (int seed = from; seed < from + seeds && wrong == 0; seed++) {
            runCalls(seed);
        }
        System.out.println(wrong == 0 ? "both programs answer alike" : wrong + " answers are not as due");
        if (wrong != 0) {
            System.exit(1);
        }
    }
}
