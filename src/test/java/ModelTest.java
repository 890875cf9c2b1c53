import java.util.ArrayList;
import java.util.Arrays;
import java.util.HashSet;
import java.util.List;
import java.util.Random;
import java.util.Set;
import java.util.function.ToIntFunction;
import java.util.regex.Pattern;

/**
 * Runs of random calls, each answered by the class and by a second reading of the document that
 * keeps nothing, works everything out anew and shares no code with the class.
 */
public final class ModelTest {
    private static final int RUNS = 400;
    private static final int CALLS = 220;

    private record Person(int[] seat, int low, int high, StringBuilder text) { }

    private record Dial(int kind, int cell, int[] number, int[] feeler, int[] grilles) { }

    private record Act(boolean cold, int by, int dial, boolean up) { }

    /** What is otherwise than on the floor: changed ahead of a run, and put back by making a new one. */
    private static final class Otherwise {
        final Set<Integer> quiet = new HashSet<>();
        int[] seats = null;
        int goneDial = -1;
        int goneUntil = 40;
        int[] numbers = null;
        int feelerDial = -1;
        int feelerCell = -1;
    }

    private static final class Result {
        final int[][] warm = new int[41][];
        final int[][] stone = new int[41][];
        final int[][] numbers = new int[40][];
        final boolean[][] acted = new boolean[40][6];
        final int[][] points = new int[40][6];
        final int[][][] gifts = new int[40][8][24];
        int cost = 0;

        int acts(int p) {
            int n = 0;
            for (boolean[] a : acted) {
                n += a[p] ? 1 : 0;
            }
            return n;
        }

        int points(int p) {
            return Arrays.stream(points).mapToInt(row -> row[p]).sum();
        }

        int together() {
            return Arrays.stream(points).flatMapToInt(Arrays::stream).sum();
        }
    }

    private static final class Model {
        final int[] warm = new int[24];
        final int[] stone = new int[24];
        final Set<Integer> walls = new HashSet<>();
        final int[] laws = {100, 10, 5, 10, 5, 3};
        final List<Person> persons = new ArrayList<>();
        final List<Dial> dials = new ArrayList<>();
        final Object[] sheets = new Object[4];
        int latest = 0;

        Model() {
            Arrays.fill(warm, 200);
            Arrays.fill(stone, 200);
        }

        // ---- a day

        Result day(Otherwise o) {
            Result r = new Result();
            int n = dials.size();
            int[] now = new int[n];
            for (int d = 0; d < n; d++) {
                now[d] = o.numbers == null ? dials.get(d).number[0] : o.numbers[d];
            }
            int[][] tries = new int[6][8];
            r.warm[0] = warm.clone();
            r.stone[0] = stone.clone();
            for (int t = 0; t < 40; t++) {
                int gone = t < o.goneUntil ? o.goneDial : -1;
                for (int p = 0; p < persons.size(); p++) {
                    r.acted[t][p] = !o.quiet.contains(p) && act(p, r.warm[t][seat(o, p)], now, tries, gone);
                }
                r.numbers[t] = now.clone();
                physics(r, t, now, o, gone);
                for (int p = 0; p < persons.size(); p++) {
                    int w = r.warm[t + 1][seat(o, p)];
                    Person who = persons.get(p);
                    int off = w < who.low ? who.low - w : w > who.high ? w - who.high : 0;
                    r.points[t][p] = (off >= 50 ? 0 : 100 - 2 * off) + (r.acted[t][p] ? laws[4] : 0);
                }
            }
            return r;
        }

        int seat(Otherwise o, int p) {
            return o.seats == null ? persons.get(p).seat[0] : o.seats[p];
        }

        boolean act(int p, int felt, int[] now, int[][] tries, int gone) {
            Person who = persons.get(p);
            for (Act a : habits(who.text.toString())) {
                int by = a.cold ? who.low - felt : felt - who.high;
                if (by < 1 || by < a.by || a.dial >= dials.size() || a.dial == gone) {
                    continue;
                }
                int kind = dials.get(a.dial).kind;
                int to = kind == 0 ? now[a.dial] + (a.up ? 10 : -10) : a.up ? 1 : 0;
                boolean can = kind == 0 ? 100 <= to && to <= 300 : to != now[a.dial];
                if (!can || kind == 1 && tries[p][a.dial] == laws[5]) {
                    continue;
                }
                if (kind == 1) {
                    tries[p][a.dial]++;
                }
                now[a.dial] = to;
                return true;
            }
            return false;
        }

        void physics(Result r, int t, int[] now, Otherwise o, int gone) {
            int[] w = r.warm[t];
            int[] s = r.stone[t];
            int[] nw = new int[24];
            int[] ns = new int[24];
            Set<Integer> cards = new HashSet<>();
            for (int d = 0; d < dials.size(); d++) {
                if (dials.get(d).kind == 4 && now[d] == 1 && d != gone) {
                    cards.add(dials.get(d).cell);
                }
            }
            for (int d = 0; d < dials.size(); d++) {
                if (d != gone) {
                    int feeler = d == o.feelerDial ? o.feelerCell : dials.get(d).feeler[0];
                    gifts(r, t, d, now[d], w[feeler], cards);
                }
            }
            for (int c = 0; c < 24; c++) {
                int sum = w[c];
                for (int b = 0; b < 24; b++) {
                    if (adjacent(b, c) && !walls.contains(edge(b, c))) {
                        int much = Math.abs(w[b] - w[c]) * laws[1] / 100;
                        sum += w[b] > w[c] ? much : -much;
                    }
                }
                int soaks = Math.abs(w[c] - s[c]) * laws[2] / 100;
                sum += w[c] > s[c] ? -soaks : soaks;
                ns[c] = s[c] + (w[c] > s[c] ? soaks : -soaks);
                for (int d = 0; d < dials.size(); d++) {
                    sum += r.gifts[t][d][c];
                }
                nw[c] = sum < 0 ? 0 : sum > 600 ? 600 : sum;
            }
            r.warm[t + 1] = nw;
            r.stone[t + 1] = ns;
        }

        void gifts(Result r, int t, int d, int number, int felt, Set<Integer> cards) {
            Dial dial = dials.get(d);
            int[] g = r.gifts[t][d];
            if (dial.kind == 0) {
                if (felt != number) {
                    for (int c = 0; c < 24; c++) {
                        if ((dial.grilles[0] & 1 << c) != 0) {
                            int much = cards.contains(c) ? laws[3] / 2 : laws[3];
                            g[c] = felt < number ? much : -much;
                            r.cost++;
                        }
                    }
                }
            } else if (number == 1) {
                int c = dial.cell;
                if (dial.kind == 2) {
                    g[c] = -10;
                    g[c % 6 < 5 ? c + 1 : c - 1] = 10;
                    r.cost += 1;
                } else if (dial.kind == 3) {
                    g[c] = 15;
                    r.cost += 2;
                } else if (dial.kind == 5) {
                    int out = laws[0];
                    int w = r.warm[t][c];
                    g[c] = w > out ? -((w - out) / 5) : (out - w) / 5;
                }
            }
        }

        static boolean adjacent(int a, int b) {
            int rows = Math.abs(a / 6 - b / 6);
            int columns = Math.abs(a % 6 - b % 6);
            return rows + columns == 1;
        }

        static int edge(int a, int b) {
            return Math.min(a, b) * 100 + Math.max(a, b);
        }

        // ---- habits

        static int fault(String text) {
            if (text.isEmpty() || WHOLE.matcher(text).matches()) {
                return -1;
            }
            for (int n = 1; n <= text.length(); n++) {
                if (!canGoOn(text.substring(0, n))) {
                    return n - 1;
                }
            }
            return text.length();
        }

        static boolean canGoOn(String start) {
            for (String rest : RESTS) {
                if (WHOLE.matcher(start + rest).matches()) {
                    return true;
                }
            }
            return false;
        }

        static final String PART = "[kw][0-9]{1,3}:[0-7][+-]";
        static final Pattern WHOLE = Pattern.compile("(?s)" + PART + "(;" + PART + ")*");
        static final String[] RESTS = {"", "+", "0+", ":0+", "0:0+", "k0:0+"};

        static List<Act> habits(String text) {
            List<Act> acts = new ArrayList<>();
            if (text.isEmpty() || !WHOLE.matcher(text).matches()) {
                return acts;
            }
            for (String part : text.split(";")) {
                int colon = part.indexOf(':');
                acts.add(new Act(part.charAt(0) == 'k', Integer.parseInt(part.substring(1, colon)),
                    part.charAt(colon + 1) - '0', part.endsWith("+")));
            }
            return acts;
        }

        // ---- sheets

        int found(int n) {
            latest = n;
            return -10 - n;
        }

        int length(int s) {
            Object o = sheets[s];
            return o instanceof byte[] b ? b.length : o instanceof short[] h ? h.length : ((int[]) o).length;
        }

        int item(int s, int i) {
            Object o = sheets[s];
            return o instanceof byte[] b ? b[i] : o instanceof short[] h ? h[i] : ((int[]) o)[i];
        }

        void put(int s, int i, int v) {
            Object o = sheets[s];
            if (o instanceof byte[] b) {
                b[i] = (byte) v;
            } else if (o instanceof short[] h) {
                h[i] = (short) v;
            } else {
                ((int[]) o)[i] = v;
            }
        }

        int form(int s) {
            Object o = sheets[s];
            return o instanceof byte[] ? 0 : o instanceof short[] ? 1 : 2;
        }

        int at(int s, int form, int i) {
            if (s < 0 || s > 3 || form < 0 || form > 2) {
                return -2;
            }
            if (sheets[s] == null) {
                return found(1);
            }
            if (form(s) != form) {
                return found(3);
            }
            return i < 0 || i >= length(s) ? found(2) : 0;
        }

        boolean cellOk(int c) {
            return 0 <= c && c < 24;
        }

        boolean sheetOk(int s) {
            return 0 <= s && s < 4;
        }

        boolean personOk(int p) {
            return 0 <= p && p < persons.size();
        }

        boolean dialOk(int d) {
            return 0 <= d && d < dials.size();
        }

        boolean realOk(int d) {
            return dialOk(d) && dials.get(d).kind == 0;
        }

        static boolean in(int v, int a, int b) {
            return a <= v && v <= b;
        }

        static boolean numberOk(int kind, int v) {
            return kind == 0 ? in(v, 100, 300) : in(v, 0, 1);
        }

        // ---- what is asked

        int read(int s, int cell) {
            if (!sheetOk(s) || !cellOk(cell)) {
                return -2;
            }
            if (sheets[s] == null) {
                return found(1);
            }
            int n = 0;
            for (; n < length(s) && cell + n < 24 && in(item(s, n), 0, 400); n++) {
                warm[cell + n] = item(s, n);
            }
            return n;
        }

        int wall(int a, int b, boolean is) {
            if (!cellOk(a) || !cellOk(b) || !adjacent(a, b)) {
                return -2;
            }
            return (is ? walls.add(edge(a, b)) : walls.remove(edge(a, b))) ? 1 : 0;
        }

        int harm(int p, int q) {
            if (!personOk(p) || !personOk(q) || p == q) {
                return -2;
            }
            return without(p).points(q) - day(new Otherwise()).points(q);
        }

        Result without(int p) {
            Otherwise o = new Otherwise();
            o.quiet.add(p);
            return day(o);
        }

        int fight(int a, int b) {
            if (!dialOk(a) || !dialOk(b) || a == b) {
                return -2;
            }
            Result r = day(new Otherwise());
            int steps = 0;
            for (int t = 0; t < 40; t++) {
                boolean found = false;
                for (int c = 0; c < 24; c++) {
                    found |= r.gifts[t][a][c] * r.gifts[t][b][c] < 0;
                }
                steps += found ? 1 : 0;
            }
            return steps;
        }

        int leads(int p, int q) {
            if (!personOk(p) || !personOk(q) || p == q) {
                return -2;
            }
            return without(p).acts(q) != day(new Otherwise()).acts(q) ? 1 : 0;
        }

        int ring() {
            int n = persons.size();
            boolean[][] way = new boolean[n][n];
            for (int p = 0; p < n; p++) {
                for (int q = 0; q < n; q++) {
                    way[p][q] = p != q && leads(p, q) == 1;
                }
            }
            for (int k = 0; k < n; k++) {
                for (int p = 0; p < n; p++) {
                    for (int q = 0; q < n; q++) {
                        way[p][q] |= way[p][k] && way[k][q];
                    }
                }
            }
            int bits = 0;
            for (int p = 0; p < n; p++) {
                bits |= way[p][p] ? 1 << p : 0;
            }
            return bits;
        }

        int[] numbers() {
            return dials.stream().mapToInt(d -> d.number[0]).toArray();
        }

        int best(int purse, int what) {
            if (!in(purse, 0, 9999) || !in(what, 0, 2)) {
                return -2;
            }
            List<Integer> real = new ArrayList<>();
            for (int d = 0; d < dials.size(); d++) {
                if (dials.get(d).kind == 0) {
                    real.add(d);
                }
            }
            if (real.isEmpty()) {
                return -3;
            }
            int[] best = null;
            for (int a = 180; a <= 250; a += 10) {
                for (int b = 180; b <= (real.size() > 1 ? 250 : 180); b += 10) {
                    Otherwise o = new Otherwise();
                    o.numbers = numbers();
                    o.numbers[real.get(0)] = a;
                    if (real.size() > 1) {
                        o.numbers[real.get(1)] = b;
                    }
                    Result r = day(o);
                    if (r.cost <= purse && (best == null || r.together() > best[2])) {
                        best = new int[] {a, real.size() > 1 ? b : -1, r.together()};
                    }
                }
            }
            return best == null ? -1 : best[what];
        }

        int seats(int seat) {
            if (seat != -1 && !personOk(seat)) {
                return -2;
            }
            if (persons.size() > 5) {
                return -4;
            }
            int[] best = new int[6];
            best[5] = -1;
            seatRest(new ArrayList<>(), best);
            return seat == -1 ? best[5] : best[seat];
        }

        void seatRest(List<Integer> sitting, int[] best) {
            int n = persons.size();
            if (sitting.size() == n) {
                Otherwise o = new Otherwise();
                o.seats = new int[n];
                for (int i = 0; i < n; i++) {
                    o.seats[sitting.get(i)] = persons.get(i).seat[0];
                }
                int points = day(o).together();
                if (points > best[5]) {
                    best[5] = points;
                    for (int i = 0; i < n; i++) {
                        best[i] = sitting.get(i);
                    }
                }
                return;
            }
            for (int p = 0; p < n; p++) {
                if (!sitting.contains(p)) {
                    sitting.add(p);
                    seatRest(sitting, best);
                    sitting.remove(sitting.size() - 1);
                }
            }
        }

        int feel(int d) {
            if (!realOk(d)) {
                return -2;
            }
            int[] points = new int[24];
            for (int c = 0; c < 24; c++) {
                Otherwise o = new Otherwise();
                o.feelerDial = d;
                o.feelerCell = c;
                points[c] = day(o).together();
            }
            int most = Arrays.stream(points).max().getAsInt();
            int c = 0;
            while (points[c] != most) {
                c++;
            }
            return c;
        }

        int worth(int d) {
            if (!dialOk(d)) {
                return -2;
            }
            Otherwise o = new Otherwise();
            o.goneDial = d;
            return day(new Otherwise()).together() - day(o).together();
        }

        int vote(int s, int d, int rule) {
            if (!sheetOk(s) || !realOk(d) || !in(rule, 0, 1)) {
                return -2;
            }
            if (sheets[s] == null) {
                return found(1);
            }
            if (length(s) != persons.size()) {
                return -3;
            }
            int[] pressed = new int[length(s)];
            for (int i = 0; i < pressed.length; i++) {
                pressed[i] = item(s, i);
                if (!in(pressed[i], -1, 1)) {
                    return -3;
                }
            }
            return voted(pressed, d, rule);
        }

        int voted(int[] pressed, int d, int rule) {
            int tens = Integer.signum(Arrays.stream(pressed).sum());
            if (rule == 1) {
                int[] sorted = pressed.clone();
                Arrays.sort(sorted);
                tens = sorted.length == 0 ? 0 : sorted[(sorted.length - 1) / 2];
            }
            int number = dials.get(d).number[0];
            return in(number + 10 * tens, 100, 300) ? number + 10 * tens : number;
        }

        int gain(int s, int d, int rule, int p) {
            if (!sheetOk(s) || !realOk(d) || !in(rule, 0, 1) || !personOk(p)) {
                return -2;
            }
            int v = vote(s, d, rule);
            if (v < 0) {
                return v;
            }
            int most = 0;
            for (int press = -1; press <= 1; press++) {
                int[] pressed = new int[length(s)];
                for (int i = 0; i < pressed.length; i++) {
                    pressed[i] = i == p ? press : item(s, i);
                }
                most = Math.max(most, pointsAt(d, voted(pressed, d, rule), p) - pointsAt(d, v, p));
            }
            return most;
        }

        int pointsAt(int d, int number, int p) {
            Otherwise o = new Otherwise();
            o.numbers = numbers();
            o.numbers[d] = number;
            return day(o).points(p);
        }

        int monday(int d, int c, int w, int t) {
            if (!realOk(d) || !cellOk(c) || !in(w, 0, 600) || !in(t, 1, 40)) {
                return -2;
            }
            int last = -1;
            for (int begin = 0; begin <= t; begin++) {
                Otherwise o = new Otherwise();
                o.quiet.addAll(List.of(0, 1, 2, 3, 4, 5));
                o.goneDial = d;
                o.goneUntil = begin;
                if (day(o).warm[t][c] >= w) {
                    last = begin;
                }
            }
            return last;
        }

        int span(int s, int what) {
            if (!sheetOk(s) || !in(what, 0, 3)) {
                return -2;
            }
            if (sheets[s] == null) {
                return found(1);
            }
            if (length(s) % 2 == 1) {
                return -3;
            }
            boolean[] low = new boolean[401];
            boolean[] high = new boolean[401];
            Arrays.fill(low, true);
            Arrays.fill(high, true);
            for (int i = 0; i < length(s); i += 2) {
                int w = item(s, i);
                int a = item(s, i + 1);
                if (!in(w, 0, 400) || !in(a, -1, 1)) {
                    return -3;
                }
                for (int v = 0; v <= 400; v++) {
                    low[v] &= a == -1 ? v > w : v <= w;
                    high[v] &= a == 1 ? v < w : v >= w;
                }
            }
            int[] answer = {999, -1, 999, -1};
            for (int l = 0; l <= 400; l++) {
                for (int h = l; h <= 400; h++) {
                    if (low[l] && high[h]) {
                        answer[0] = Math.min(answer[0], l);
                        answer[1] = Math.max(answer[1], l);
                        answer[2] = Math.min(answer[2], h);
                        answer[3] = Math.max(answer[3], h);
                    }
                }
            }
            return answer[1] == -1 ? -3 : answer[what];
        }

        int copy(int s, int i, int t, int j, int n) {
            if (!sheetOk(s) || !sheetOk(t)) {
                return -2;
            }
            if (sheets[s] == null || sheets[t] == null) {
                return found(1);
            }
            if (form(s) != form(t)) {
                return found(4);
            }
            try {
                System.arraycopy(sheets[s], i, sheets[t], j, n);
            } catch (IndexOutOfBoundsException e) {
                return found(2);
            }
            return 1;
        }

        int count(int what) {
            return switch (what) {
                case 0 -> persons.size();
                case 1 -> dials.size();
                case 2 -> walls.size();
                case 3 -> laws[0];
                case 4 -> persons.stream().mapToInt(p -> p.text.length()).sum();
                case 8 -> latest;
                default -> -2;
            };
        }

        long digest() {
            Result r = day(new Otherwise());
            List<Integer> all = new ArrayList<>();
            for (int what = 0; what < 5; what++) {
                all.add(count(what));
            }
            persons.forEach(p -> all.add(fault(p.text.toString())));
            for (int p = 0; p < persons.size(); p++) {
                all.add(r.acts(p));
                all.add(r.points(p));
            }
            all.add(r.cost);
            all.add(r.together());
            for (int t : new int[] {0, 1, 20, 40}) {
                Arrays.stream(r.warm[t]).forEach(all::add);
            }
            Arrays.stream(r.numbers[39]).forEach(all::add);
            all.add(ring());
            long h = 17;
            for (int v : all) {
                h = h * 31 + v;
            }
            return h;
        }
    }

    // ---- random calls

    private final Random random;
    private final WarmFloor x = new WarmFloor();
    private final Model m = new Model();
    private final StringBuilder told = new StringBuilder();
    /** In every other run all sit close together, with small spans: so one's acts reach the others. */
    private final boolean close;
    private long got;
    private long want;

    private ModelTest(long seed) {
        random = new Random(seed);
        close = seed % 2 == 1;
    }

    private int from(int a, int b) {
        return a + random.nextInt(b - a + 1);
    }

    /** Mostly within, now and then just outside or far away. */
    private int about(int a, int b) {
        int dice = random.nextInt(60);
        if (dice == 0) {
            return a - 1;
        }
        if (dice == 1) {
            return b + 1;
        }
        if (dice == 2) {
            return random.nextBoolean() ? Integer.MIN_VALUE : Integer.MAX_VALUE;
        }
        return dice < 8 ? (random.nextBoolean() ? a : b) : from(a, Math.max(a, b));
    }

    private int place() {
        return close ? new int[] {0, 1, 2, 6, 7, 8}[random.nextInt(6)] : about(0, 23);
    }

    private void answers(String call, long got, long want) {
        this.got = got;
        this.want = want;
        told.append("  ").append(call).append(" -> ").append(got).append('\n');
    }

    private boolean isAsDue() {
        return got == want;
    }

    private void build() {
        switch (random.nextInt(10)) {
            case 0 -> cell();
            case 1 -> wall();
            case 2 -> law();
            case 3 -> person();
            case 4 -> seat();
            case 5, 6 -> typing();
            case 7, 8 -> dial();
            default -> tune();
        }
    }

    private void cell() {
        int c = about(0, 23);
        int what = about(0, 1);
        int v = close ? from(190, 220) : about(0, 400);
        int due = -2;
        if (m.cellOk(c) && Model.in(what, 0, 1) && Model.in(v, 0, 400)) {
            int[] row = what == 0 ? m.warm : m.stone;
            due = row[c];
            row[c] = v;
        }
        answers("cell(" + c + ", " + what + ", " + v + ")", x.cell(c, what, v), due);
    }

    private void wall() {
        int a = about(0, 23);
        int b = a + new int[] {1, -1, 6, -6, 7, 0}[random.nextInt(6)];
        boolean is = random.nextInt(4) > 0;
        answers("wall(" + a + ", " + b + ", " + is + ")", x.wall(a, b, is), m.wall(a, b, is));
    }

    private void law() {
        int what = about(0, 5);
        int[] least = {-200, 0, 0, 0, 0, 1};
        int[] most = {400, 20, 20, 30, 20, 60};
        int i = Math.max(0, Math.min(5, what));
        int v = about(least[i], most[i]);
        int due = -2;
        if (what == i && Model.in(v, least[i], most[i])) {
            due = m.laws[i];
            m.laws[i] = v;
        }
        answers("set(" + what + ", " + v + ")", x.set(what, v), due);
    }

    private void person() {
        int c = place();
        int low = close ? from(190, 215) : random.nextInt(3) == 0 ? about(0, 400) : from(170, 240);
        int high = random.nextInt(20) == 0 ? low - 1 : low + from(0, close ? 8 : 40);
        int due = -2;
        if (m.cellOk(c) && Model.in(low, 0, 400) && high >= low && high <= 400) {
            due = -4;
            if (m.persons.size() < 6) {
                due = m.persons.size();
                m.persons.add(new Person(new int[] {c}, low, high, new StringBuilder()));
            }
        }
        answers("person(" + c + ", " + low + ", " + high + ")", x.person(c, low, high), due);
    }

    private void seat() {
        int p = about(0, m.persons.size() - 1);
        int c = place();
        int due = -2;
        if (m.personOk(p) && m.cellOk(c)) {
            due = m.persons.get(p).seat[0];
            m.persons.get(p).seat[0] = c;
        }
        answers("seat(" + p + ", " + c + ")", x.seat(p, c), due);
    }

    private void typing() {
        int p = about(0, m.persons.size() - 1);
        if (random.nextInt(5) == 0) {
            int due = -2;
            if (m.personOk(p)) {
                due = m.persons.get(p).text.length();
                m.persons.get(p).text.setLength(0);
            }
            answers("wipe(" + p + ")", x.wipe(p), due);
            return;
        }
        StringBuilder text = new StringBuilder();
        int parts = from(1, 3);
        boolean more = m.personOk(p) && m.persons.get(p).text.length() > 0;
        for (int i = 0; i < parts; i++) {
            text.append(i > 0 || more ? ";" : "").append(random.nextBoolean() ? 'k' : 'w');
            text.append(from(0, close ? 4 : random.nextInt(4) == 0 ? 999 : 12)).append(':');
            text.append(from(0, Math.max(0, Math.min(7, m.dials.size())))).append(random.nextBoolean() ? '+' : '-');
        }
        if (random.nextInt(8) == 0) {
            text.insert(random.nextInt(text.length() + 1), "kw09:78+-;x ".charAt(random.nextInt(12)));
        }
        if (random.nextInt(12) == 0) {
            text.setLength(random.nextInt(text.length()));
        }
        for (char c : text.toString().toCharArray()) {
            type(p, c);
            if (!isAsDue()) {
                return;
            }
        }
        if (random.nextInt(30) == 0) {
            type(p, about(0, 255));
        }
    }

    private void type(int p, int b) {
        int due = -2;
        if (m.personOk(p) && Model.in(b, 0, 255)) {
            StringBuilder text = m.persons.get(p).text;
            due = -4;
            if (text.length() < 40) {
                text.append((char) b);
                due = text.length();
            }
        }
        answers("type(" + p + ", " + b + ")", x.type(p, b), due);
    }

    private void dial() {
        int kind = random.nextInt(3) == 0 ? 0 : about(0, 5);
        int c = place();
        int number = kind == 0 ? about(100, 300) : about(0, 1);
        int due = -2;
        if (Model.in(kind, 0, 5) && m.cellOk(c) && Model.numberOk(kind, number)) {
            due = -4;
            if (m.dials.size() < 8) {
                due = m.dials.size();
                int row = c / 6;
                int bits = 0;
                for (int i = 0; i < 6; i++) {
                    bits |= 1 << row * 6 + i;
                }
                m.dials.add(new Dial(kind, c, new int[] {number}, new int[] {c}, new int[] {bits}));
            }
        }
        answers("dial(" + kind + ", " + c + ", " + number + ")", x.dial(kind, c, number), due);
    }

    private void tune() {
        int d = about(0, m.dials.size() - 1);
        int what = about(0, 2);
        int kind = m.dialOk(d) ? m.dials.get(d).kind : 0;
        int v = what == 0 ? about(0, 23) : what == 1 ? about(1, 0xffffff) : kind == 0 ? about(100, 300) : about(0, 1);
        int due = -2;
        if (m.dialOk(d) && Model.in(what, 0, 2)) {
            Dial dial = m.dials.get(d);
            int[] place = what == 0 ? dial.feeler : what == 1 ? dial.grilles : dial.number;
            boolean fits = what == 2 ? Model.numberOk(kind, v) : kind == 0 && (what == 0 ? m.cellOk(v) : Model.in(v, 1, 0xffffff));
            if (fits) {
                due = place[0];
                place[0] = v;
            }
        }
        answers("tune(" + d + ", " + what + ", " + v + ")", x.tune(d, what, v), due);
    }

    private void sheets() {
        int s = about(0, 3);
        int form = m.sheetOk(s) && m.sheets[s] != null && random.nextInt(6) > 0 ? m.form(s) : about(0, 2);
        int n = m.sheetOk(s) && m.sheets[s] != null ? m.length(s) : 3;
        switch (random.nextInt(9)) {
            case 0, 1 -> sheet(s, random.nextBoolean() ? 2 : about(0, 2));
            case 2 -> {
                int due = !m.sheetOk(s) ? -2 : m.sheets[s] == null ? m.found(1) : m.length(s);
                if (due >= 0) {
                    m.sheets[s] = null;
                }
                answers("lose(" + s + ")", x.lose(s), due);
            }
            case 3, 4 -> {
                int i = about(0, n - 1);
                int v = random.nextInt(3) == 0 ? random.nextInt() : random.nextBoolean() ? from(-1, 1) : from(-10, 410);
                lay(s, form, i, v);
            }
            case 5 -> {
                int i = about(0, n - 1);
                int due = m.at(s, form, i);
                answers("get(" + s + ", " + form + ", " + i + ")", x.get(s, form, i), due == 0 ? m.item(s, i) : Integer.MIN_VALUE);
            }
            case 6 -> {
                int t = about(0, 3);
                int i = about(0, Math.min(n, 5));
                int j = about(0, 5);
                int much = about(0, 4);
                answers("copy(" + s + ", " + i + ", " + t + ", " + j + ", " + much + ")", x.copy(s, i, t, j, much), m.copy(s, i, t, j, much));
            }
            case 7 -> {
                int t = about(0, 40);
                int due = -2;
                if (m.sheetOk(s) && Model.in(t, 0, 40)) {
                    due = m.sheets[s] == null ? m.found(1) : Math.min(24, m.length(s));
                    for (int i = 0; i < due; i++) {
                        m.put(s, i, m.day(new Otherwise()).warm[t][i]);
                    }
                }
                answers("write(" + t + ", " + s + ")", x.write(t, s), due);
            }
            default -> {
                int c = about(0, 23);
                answers("read(" + s + ", " + c + ")", x.read(s, c), m.read(s, c));
            }
        }
    }

    private void sheet(int s, int form) {
        int n = random.nextInt(3) == 0 ? about(0, 60) : random.nextBoolean() ? m.persons.size() : 2 * from(0, 4);
        int due = -2;
        if (m.sheetOk(s) && Model.in(form, 0, 2) && n <= 60) {
            due = n < 0 ? m.found(5) : n;
            if (n >= 0) {
                m.sheets[s] = form == 0 ? new byte[n] : form == 1 ? new short[n] : new int[n];
            }
        }
        answers("sheet(" + s + ", " + form + ", " + n + ")", x.sheet(s, form, n), due);
    }

    private void lay(int s, int form, int i, int v) {
        int due = m.at(s, form, i);
        if (due == 0) {
            m.put(s, i, v);
            due = 1;
        }
        answers("lay(" + s + ", " + form + ", " + i + ", " + v + ")", x.lay(s, form, i, v), due);
    }

    private int asked(boolean fits, ToIntFunction<Result> question) {
        return fits ? question.applyAsInt(m.day(new Otherwise())) : -2;
    }

    private void askDay() {
        int t = about(0, 40);
        int c = about(0, 23);
        int what = about(0, 1);
        int p = about(0, m.persons.size() - 1);
        int d = about(0, m.dials.size() - 1);
        boolean either = Model.in(what, 0, 1);
        boolean step = Model.in(t, 0, 39);
        switch (random.nextInt(7)) {
            case 0 -> answers("warmth(" + t + ", " + c + ", " + what + ")", x.warmth(t, c, what),
                asked(Model.in(t, 0, 40) && m.cellOk(c) && either, r -> (what == 0 ? r.warm : r.stone)[t][c]));
            case 1 -> answers("number(" + t + ", " + d + ")", x.number(t, d), asked(step && m.dialOk(d), r -> r.numbers[t][d]));
            case 2 -> answers("did(" + t + ", " + p + ", " + what + ")", x.did(t, p, what),
                asked(step && m.personOk(p) && either, r -> what == 1 ? r.points[t][p] : r.acted[t][p] ? 1 : 0));
            case 3 -> answers("all(" + p + ", " + what + ")", x.all(p, what),
                asked(m.personOk(p) && either, r -> what == 0 ? r.acts(p) : r.points(p)));
            case 4 -> answers("run(" + what + ")", x.run(what), asked(either, r -> what == 0 ? r.cost : r.together()));
            case 5 -> answers("fault(" + p + ")", x.fault(p), m.personOk(p) ? Model.fault(m.persons.get(p).text.toString()) : -2);
            default -> {
                int which = about(0, 8);
                answers("count(" + which + ")", x.count(which), m.count(which));
            }
        }
    }

    private void askOtherwise() {
        int p = about(0, m.persons.size() - 1);
        int q = about(0, m.persons.size() - 1);
        int d = about(0, m.dials.size() - 1);
        int e = about(0, m.dials.size() - 1);
        int s = about(0, 3);
        switch (random.nextInt(13)) {
            case 0 -> answers("harm(" + p + ", " + q + ")", x.harm(p, q), m.harm(p, q));
            case 1, 2 -> answers("fight(" + d + ", " + e + ")", x.fight(d, e), m.fight(d, e));
            case 3 -> answers("leads(" + p + ", " + q + ")", x.leads(p, q), m.leads(p, q));
            case 4 -> answers("ring()", x.ring(), m.ring());
            case 5 -> {
                int purse = random.nextInt(3) == 0 ? about(0, 9999) : from(0, 500);
                int what = about(0, 2);
                answers("best(" + purse + ", " + what + ")", x.best(purse, what), m.best(purse, what));
            }
            case 6 -> {
                int seat = about(-1, m.persons.size() - 1);
                answers("seats(" + seat + ")", x.seats(seat), m.seats(seat));
            }
            case 7 -> answers("feel(" + d + ")", x.feel(d), m.feel(d));
            case 8 -> answers("worth(" + d + ")", x.worth(d), m.worth(d));
            case 9, 10 -> askVote(s, d, p);
            case 11 -> {
                int c = about(0, 23);
                int w = random.nextInt(3) == 0 ? about(0, 600) : from(180, 260);
                int t = about(1, 40);
                answers("monday(" + d + ", " + c + ", " + w + ", " + t + ")", x.monday(d, c, w, t), m.monday(d, c, w, t));
            }
            default -> askSpan(s);
        }
    }

    private void askVote(int s, int d, int p) {
        int rule = about(0, 1);
        if (m.sheetOk(s) && random.nextInt(5) > 0) {
            x.sheet(s, 1, m.persons.size());
            m.sheets[s] = new short[m.persons.size()];
            for (int i = 0; i < m.persons.size(); i++) {
                lay(s, 1, i, random.nextInt(40) == 0 ? 2 : from(-1, 1));
            }
        }
        if (random.nextBoolean()) {
            answers("vote(" + s + ", " + d + ", " + rule + ")", x.vote(s, d, rule), m.vote(s, d, rule));
        } else {
            answers("gain(" + s + ", " + d + ", " + rule + ", " + p + ")", x.gain(s, d, rule, p), m.gain(s, d, rule, p));
        }
    }

    private void askSpan(int s) {
        if (m.sheetOk(s) && random.nextInt(5) > 0) {
            int pairs = from(0, 6);
            x.sheet(s, 2, 2 * pairs);
            m.sheets[s] = new int[2 * pairs];
            int low = from(0, 400);
            int high = from(low, 400);
            for (int i = 0; i < pairs; i++) {
                int w = random.nextInt(40) == 0 ? about(0, 400) : from(0, 400);
                lay(s, 2, 2 * i, w);
                lay(s, 2, 2 * i + 1, random.nextInt(20) == 0 ? from(-2, 2) : w < low ? -1 : w > high ? 1 : 0);
            }
        }
        int what = about(0, 3);
        answers("span(" + s + ", " + what + ")", x.span(s, what), m.span(s, what));
    }

    private boolean goesWell() {
        for (int i = 0; i < CALLS; i++) {
            int dice = random.nextInt(100);
            if (dice < (i < 60 ? 70 : 15)) {
                build();
            } else if (dice < 80) {
                askDay();
            } else if (dice < 90) {
                sheets();
            } else if (i >= 30) {
                askOtherwise();
            } else {
                answers("digest()", x.digest(), m.digest());
            }
            if (!isAsDue()) {
                return false;
            }
        }
        answers("digest()", x.digest(), m.digest());
        return isAsDue();
    }

    public static void main(String[] args) {
        int wrong = 0;
        long first = args.length > 0 ? Long.parseLong(args[0]) : 1;
        int runs = args.length > 1 ? Integer.parseInt(args[1]) : RUNS;
        for (long seed = first; seed < first + runs && wrong < 3; seed++) {
            ModelTest test = new ModelTest(seed);
            if (!test.goesWell()) {
                wrong++;
                System.out.println("seed " + seed + ", due is " + test.want + " behind the last row:");
                System.out.print(test.told);
            }
        }
        System.out.println(wrong == 0 ? "all answers are as due" : wrong + " runs are not as due");
        if (wrong != 0) {
            System.exit(1);
        }
    }
}
