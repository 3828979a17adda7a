import java.util.ArrayDeque;
import java.util.ArrayList;
import java.util.Comparator;
import java.util.Deque;
import java.util.List;
import java.util.Map;
import java.util.Random;
import java.util.TreeMap;
import java.util.TreeSet;
import java.util.regex.Matcher;
import java.util.regex.Pattern;

/** Runs of drawn calls, each answer compared with that of a slow model written from the document. */
public final class ModelTests {
    private static final int BAD = -1, NO = -2, FULL = -3, NONE = -4;
    private static final int RUNS = 400;
    private static final int CALLS = 512;
    private static final String FIRST =
        "n7;l0,1,1;l1,2,2;l2,3,1;l3,4,1;l4,5,3;l5,0,1;l1,6,1;l6,3,2;d4,2,5;";
    private static final Pattern ITEM =
        Pattern.compile("([nz])(\\d{1,4});|(m)(\\d{1,4}),(\\d{1,4});|([ld])(\\d{1,4}),(\\d{1,4}),(\\d{1,4});");

    /** All that is told; a change makes a new one. */
    private static final class State {
        int n, m = 8, p = 6, z;
        final Map<Integer, Integer> links = new TreeMap<>();
        final Map<Integer, int[]> told = new TreeMap<>();

        State copy() {
            State s = new State();
            s.n = n; s.m = m; s.p = p; s.z = z;
            s.links.putAll(links);
            s.told.putAll(told);
            return s;
        }

        static int key(int i, int j) { return Math.min(i, j) * 100 + Math.max(i, j); }

        int length(int i, int j) { return links.getOrDefault(key(i, j), 0); }

        boolean isPlace(int i) { return i >= 0 && i < n; }

        boolean isPair(int i, int j) { return isPlace(i) && isPlace(j) && i != j; }
    }

    private static boolean in(int x, int a, int b) { return a <= x && x <= b; }

    /** The state a text tells, or null; its fault in at[0]. */
    private static State read(String text, int[] at) {
        State s = new State();
        Matcher item = ITEM.matcher(text);
        int from = 0;
        while (from < text.length()) {
            at[0] = from;
            item.region(from, text.length());
            if (!item.lookingAt() || !take(s, item)) return null;
            from = item.end();
        }
        at[0] = NONE;
        return s;
    }

    private static boolean take(State s, Matcher item) {
        List<Integer> v = new ArrayList<>();
        String kind = "";
        for (int g = 1; g <= item.groupCount(); g++) {
            if (item.group(g) == null) continue;
            if (kind.isEmpty()) kind = item.group(g); else v.add(Integer.parseInt(item.group(g)));
        }
        if (kind.equals("n")) {
            if (s.n != 0 || !in(v.get(0), 1, 16)) return false;
            s.n = v.get(0);
            return true;
        }
        if (s.n == 0) return false;
        switch (kind) {
            case "l":
                if (!s.isPair(v.get(0), v.get(1)) || !in(v.get(2), 1, 9)) return false;
                s.links.put(State.key(v.get(0), v.get(1)), v.get(2));
                return s.links.size() <= 40;
            case "d":
                if (!s.isPlace(v.get(0)) || !in(v.get(1), 0, 30) || !in(v.get(2), 0, 999)) return false;
                s.told.put(v.get(0), new int[] {v.get(1), v.get(2)});
                return true;
            case "m":
                if (!in(v.get(0), 1, 30) || !in(v.get(1), 0, 10)) return false;
                s.m = v.get(0);
                s.p = v.get(1);
                return true;
            default:
                s.z = v.get(0);
                return true;
        }
    }

    /** All that follows from a state by draws by z. */
    private static final class View {
        final State s;
        final int[][] far;
        final int[] d, f, start, head, depth, hour, up;
        final List<Integer> heads;

        View(State s, int z) {
            this.s = s;
            int n = s.n;
            far = new int[n][n];
            for (int i = 0; i < n; i++) measure(i);
            d = new int[n]; f = new int[n]; start = new int[n]; head = new int[n];
            depth = new int[n]; hour = new int[n]; up = new int[n];
            int greatest = 0;
            for (int i = 0; i < n; i++) {
                int[] told = s.told.get(i);
                d[i] = told != null ? told[0] : drawnDelay(z, i);
                f[i] = told != null ? told[1] : (int) (draw(z, i, 99) % 1000);
                greatest = Math.max(greatest, d[i]);
            }
            for (int i = 0; i < n; i++) start[i] = greatest - d[i];
            TreeSet<Integer> all = new TreeSet<>();
            for (int j = 0; j < n; j++) {
                join(j);
                all.add(head[j]);
            }
            heads = new ArrayList<>(all);
            for (int j = 0; j < n; j++) climb(j);
        }

        void measure(int from) {
            java.util.Arrays.fill(far[from], NONE);
            far[from][from] = 0;
            for (int round = 0; round < s.n; round++) {
                for (Map.Entry<Integer, Integer> link : s.links.entrySet()) {
                    int a = link.getKey() / 100, b = link.getKey() % 100, l = link.getValue();
                    if (far[from][a] != NONE && (far[from][b] == NONE || far[from][b] > far[from][a] + l)) far[from][b] = far[from][a] + l;
                    if (far[from][b] != NONE && (far[from][a] == NONE || far[from][a] > far[from][b] + l)) far[from][a] = far[from][b] + l;
                }
            }
        }

        static long draw(int z, int i, int k) {
            long x = (7919L * z + 6151L * i + 3571L * k + 1) % 65521;
            return x * x % 65521;
        }

        int drawnDelay(int z, int i) {
            int k = 0;
            while (k < s.m && draw(z, i, k) % 10 < s.p) k++;
            return k;
        }

        void join(int j) {
            List<int[]> from = new ArrayList<>();
            for (int i = 0; i < s.n; i++) {
                if (far[i][j] != NONE) from.add(new int[] {start[i] + far[i][j], f[i], i});
            }
            from.sort(Comparator.<int[]>comparingInt(a -> a[0]).thenComparingInt(a -> a[1]).thenComparingInt(a -> a[2]));
            head[j] = from.get(0)[2];
            hour[j] = from.get(0)[0];
            depth[j] = far[head[j]][j];
        }

        void climb(int j) {
            up[j] = NONE;
            for (int i = s.n - 1; i >= 0; i--) {
                int l = i == j ? 0 : s.length(i, j);
                if (l > 0 && head[i] == head[j] && depth[i] + l == depth[j] && head[j] != j) up[j] = i;
            }
        }

        int kind(int i, int j) {
            return head[i] != head[j] ? 2 : up[i] == j || up[j] == i ? 0 : 1;
        }

        int links(int kind) {
            int number = 0;
            for (int key : s.links.keySet()) if (kind(key / 100, key % 100) == kind) number++;
            return number;
        }

        int wide() { return java.util.Arrays.stream(depth).max().getAsInt(); }

        int last() { return java.util.Arrays.stream(hour).max().getAsInt(); }

        /** Lengths of the cut links of two heads. */
        List<Integer> between(int a, int b) {
            List<Integer> lengths = new ArrayList<>();
            for (Map.Entry<Integer, Integer> link : s.links.entrySet()) {
                int x = head[link.getKey() / 100], y = head[link.getKey() % 100];
                if (x == a && y == b || x == b && y == a) lengths.add(link.getValue());
            }
            return lengths;
        }
    }

    /** The model's object. */
    private static final class Model {
        State s = read(FIRST, new int[1]);
        final StringBuilder text = new StringBuilder();
        final Deque<State> past = new ArrayDeque<>();

        View now() { return new View(s, s.z); }

        State change() {
            past.push(s);
            if (past.size() > 4) past.removeLast();
            s = s.copy();
            return s;
        }

        int call(String name, int[] a) {
            switch (name) {
                case "write":
                    if (!in(a[0], 32, 126)) return BAD;
                    if (text.length() == 200) return FULL;
                    text.append((char) a[0]);
                    return text.length();
                case "wipe": {
                    int was = text.length();
                    text.setLength(0);
                    return was;
                }
                case "fault": {
                    int[] at = {NONE};
                    read(text.toString(), at);
                    return at[0];
                }
                case "lay": {
                    State laid = read(text.toString(), new int[1]);
                    if (laid == null || laid.n == 0) return NO;
                    s = laid;
                    past.clear();
                    return s.n;
                }
                case "link": {
                    if (!s.isPair(a[0], a[1]) || !in(a[2], 1, 9)) return BAD;
                    if (s.length(a[0], a[1]) == a[2]) return NO;
                    if (s.length(a[0], a[1]) == 0 && s.links.size() == 40) return FULL;
                    change().links.put(State.key(a[0], a[1]), a[2]);
                    return s.links.size();
                }
                case "unlink":
                    if (!s.isPair(a[0], a[1])) return BAD;
                    if (s.length(a[0], a[1]) == 0) return NO;
                    return change().links.remove(State.key(a[0], a[1]));
                case "delay": {
                    if (!s.isPlace(a[0]) || !in(a[1], 0, 30) || !in(a[2], 0, 999)) return BAD;
                    int was = now().d[a[0]];
                    change().told.put(a[0], new int[] {a[1], a[2]});
                    return was;
                }
                case "drawn":
                    if (!s.isPlace(a[0])) return BAD;
                    if (!s.told.containsKey(a[0])) return NO;
                    change().told.remove(a[0]);
                    return now().d[a[0]];
                case "draws": {
                    if (!in(a[0], 0, 9999)) return BAD;
                    if (s.z == a[0]) return NO;
                    int was = s.z;
                    change().z = a[0];
                    return was;
                }
                case "undo":
                    if (past.isEmpty()) return NO;
                    s = past.pop();
                    return past.size();
                default:
                    return look(name, a);
            }
        }

        int look(String name, int[] a) {
            switch (name) {
                case "place": return place(a[0], a[1]);
                case "far": return s.isPlace(a[0]) && s.isPlace(a[1]) ? now().far[a[0]][a[1]] : BAD;
                case "front": {
                    if (!in(a[0], 0, 200) || a[1] < -1) return BAD;
                    View v = now();
                    List<Integer> front = new ArrayList<>();
                    for (int i = 0; i < s.n; i++) if (v.hour[i] == a[0]) front.add(i);
                    return a[1] == -1 ? front.size() : a[1] < front.size() ? front.get(a[1]) : NONE;
                }
                case "linkOf":
                    if (!s.isPair(a[0], a[1]) || !in(a[2], 0, 1)) return BAD;
                    if (s.length(a[0], a[1]) == 0) return NONE;
                    return a[2] == 0 ? s.length(a[0], a[1]) : now().kind(a[0], a[1]);
                case "cluster": return cluster(a[0], a[1]);
                case "beside": {
                    View v = now();
                    int most = v.heads.size() - 1;
                    if (!in(a[0], 0, most) || !in(a[1], 0, most) || a[0] == a[1] || !in(a[2], 0, 1)) return BAD;
                    List<Integer> cut = v.between(v.heads.get(a[0]), v.heads.get(a[1]));
                    return a[2] == 0 ? cut.size() : cut.stream().min(Integer::compare).orElse(NONE);
                }
                case "tried": {
                    if (!in(a[0], 0, 9999) || !in(a[1], 0, 3)) return BAD;
                    View v = new View(s, a[0]);
                    return new int[] {v.heads.size(), v.links(2), v.wide(), v.last()}[a[1]];
                }
                case "best": return best(a[0], a[1], a[2]);
                case "chance": return chance(a[0], a[1], a[2], a[3]);
                case "rise": return rise(a[0]);
                default: return count(a[0]);
            }
        }

        int place(int i, int what) {
            if (!s.isPlace(i) || !in(what, 0, 9)) return BAD;
            View v = now();
            int links = 0;
            for (int key : s.links.keySet()) if (key / 100 == i || key % 100 == i) links++;
            return new int[] {v.d[i], v.f[i], s.told.containsKey(i) ? 1 : 0, v.start[i], v.head[i],
                v.heads.indexOf(v.head[i]), v.depth[i], v.hour[i], v.up[i], links}[what];
        }

        int cluster(int c, int what) {
            View v = now();
            if (!in(c, 0, v.heads.size() - 1) || !in(what, 0, 5)) return BAD;
            int h = v.heads.get(c), size = 0, wide = 0, bits = 0, cut = 0, beside = 0;
            for (int i = 0; i < s.n; i++) {
                if (v.head[i] == h) {
                    size++;
                    wide = Math.max(wide, v.depth[i]);
                    bits += 1 << i;
                }
            }
            for (int other : v.heads) {
                if (other != h) {
                    cut += v.between(h, other).size();
                    beside += v.between(h, other).isEmpty() ? 0 : 1;
                }
            }
            return new int[] {h, size, wide, cut, beside, bits}[what];
        }

        int best(int n, int w, int what) {
            if (!in(n, 1, 60) || !in(w, 0, 200) || !in(what, 0, 1)) return BAD;
            int z = NONE, cut = Integer.MAX_VALUE;
            for (int k = n - 1; k >= 0; k--) {
                View v = new View(s, k);
                if (v.wide() <= w && v.links(2) <= cut) {
                    z = k;
                    cut = v.links(2);
                }
            }
            return z == NONE || what == 0 ? z : cut;
        }

        int chance(int i, int j, int n, int part) {
            if (!s.isPair(i, j) || !in(n, 1, 60) || !in(part, 0, 1)) return BAD;
            if (s.length(i, j) == 0) return NO;
            int cut = 0;
            for (int z = 0; z < n; z++) if (new View(s, z).kind(i, j) == 2) cut++;
            int a = cut, b = n;
            while (b != 0) {
                int rest = a % b;
                a = b;
                b = rest;
            }
            return (part == 0 ? cut : n) / a;
        }

        int rise(int i) {
            if (!s.isPlace(i)) return BAD;
            int f = now().f[i];
            for (int d = 0; d <= 30; d++) {
                State other = s.copy();
                other.told.put(i, new int[] {d, f});
                if (new View(other, s.z).heads.contains(i)) return d;
            }
            return NONE;
        }

        int count(int what) {
            if (!in(what, 0, 12)) return BAD;
            View v = now();
            return new int[] {s.n, s.links.size(), v.heads.size(), v.links(2), v.links(1), v.wide(), v.last(),
                s.told.size(), s.z, s.m, s.p, past.size(), text.length()}[what];
        }
    }

    private static int call(DelayClusters x, String name, int[] a) {
        switch (name) {
            case "write": return x.write(a[0]);
            case "wipe": return x.wipe();
            case "fault": return x.fault();
            case "lay": return x.lay();
            case "link": return x.link(a[0], a[1], a[2]);
            case "unlink": return x.unlink(a[0], a[1]);
            case "delay": return x.delay(a[0], a[1], a[2]);
            case "drawn": return x.drawn(a[0]);
            case "draws": return x.draws(a[0]);
            case "undo": return x.undo();
            case "place": return x.place(a[0], a[1]);
            case "far": return x.far(a[0], a[1]);
            case "front": return x.front(a[0], a[1]);
            case "linkOf": return x.linkOf(a[0], a[1], a[2]);
            case "cluster": return x.cluster(a[0], a[1]);
            case "beside": return x.beside(a[0], a[1], a[2]);
            case "tried": return x.tried(a[0], a[1]);
            case "best": return x.best(a[0], a[1], a[2]);
            case "chance": return x.chance(a[0], a[1], a[2], a[3]);
            case "rise": return x.rise(a[0]);
            default: return x.count(a[0]);
        }
    }

    /** One run: an object, its model, and what draws the calls. */
    private static final class Run {
        final int number;
        final Random random;
        final DelayClusters x = new DelayClusters();
        final Model model = new Model();
        int calls = 0;
        int wrong = 0;

        Run(int number) {
            this.number = number;
            random = new Random(number);
        }

        void both(String name, int... a) {
            // no promise is made about an object beyond these
            if (calls == CALLS) return;
            calls++;
            int want = model.call(name, a);
            int got = call(x, name, a);
            if (got != want) {
                wrong++;
                System.out.println("run " + number + ", call " + calls + ": " + name + java.util.Arrays.toString(a)
                    + " answered " + got + ", due is " + want);
            }
        }

        /** Mostly from least to most, at times beside or far off. */
        int about(int least, int most) {
            int r = random.nextInt(40);
            if (r == 0) return least - 1;
            if (r == 1) return most + 1;
            if (r == 2) return random.nextInt(8) == 0 ? random.nextInt() : least;
            if (r == 3) return most;
            return least + random.nextInt(most - least + 1);
        }

        int place() { return about(0, model.s.n - 1); }

        int somewhere() { return random.nextInt(model.s.n); }

        /** Small ones often, for ties. */
        int someDelay() { return random.nextInt(3) == 0 ? about(0, 30) : 3 + random.nextInt(4); }

        int fraction() { return random.nextInt(3) == 0 ? about(0, 999) : random.nextInt(3); }

        String item(int n) {
            String noise = random.nextInt(30) == 0 ? "0" : "";
            switch (random.nextInt(8)) {
                case 0: return "d" + about(0, n - 1) + "," + noise + someDelay() + "," + fraction() + ";";
                case 1: return "m" + about(1, 30) + "," + about(0, 10) + ";";
                case 2: return "z" + noise + about(0, 9999) + ";";
                default: return "l" + random.nextInt(n) + "," + about(0, n - 1) + "," + about(1, 9) + ";";
            }
        }

        void tell() {
            both("wipe");
            int n = 1 + random.nextInt(16);
            StringBuilder text = new StringBuilder("n" + n + ";");
            int items = random.nextInt(20);
            for (int k = 0; k < items; k++) {
                String item = item(n);
                int[] at = new int[1];
                // faults are rare, so that most texts can be laid
                if (read(text + item, at) != null || random.nextInt(12) == 0) text.append(item);
            }
            if (random.nextInt(6) == 0) text.setCharAt(random.nextInt(text.length()), (char) about(32, 126));
            for (int k = 0; k < text.length() && calls < CALLS; k++) both("write", text.charAt(k));
            both("fault");
            both("lay");
        }

        void linkMany() {
            for (int k = 0; k < 45; k++) both("link", somewhere(), somewhere(), about(1, 4));
        }

        void change() {
            switch (random.nextInt(8)) {
                case 0: case 1: both("link", place(), place(), about(1, 9)); break;
                case 2: both("unlink", place(), place()); break;
                case 3: case 4: both("delay", place(), someDelay(), fraction()); break;
                case 5: both("drawn", place()); break;
                case 6: both("draws", random.nextBoolean() ? about(0, 9999) : random.nextInt(3)); break;
                default: both("undo");
            }
        }

        void look() {
            int most = model.now().heads.size() - 1;
            switch (random.nextInt(11)) {
                case 0: both("place", place(), about(0, 9)); break;
                case 1: both("far", place(), place()); break;
                case 2: both("front", random.nextInt(4) == 0 ? about(0, 200) : random.nextInt(9), about(-1, 4)); break;
                case 3: both("linkOf", place(), place(), about(0, 1)); break;
                case 4: both("cluster", about(0, most), about(0, 5)); break;
                case 5: both("beside", about(0, most), about(0, most), about(0, 1)); break;
                case 6: both("tried", random.nextBoolean() ? about(0, 9999) : random.nextInt(60), about(0, 3)); break;
                case 7: both("best", about(1, 60), random.nextInt(4) == 0 ? about(0, 200) : random.nextInt(8), about(0, 1)); break;
                case 8: both("chance", place(), place(), about(1, 60), about(0, 1)); break;
                case 9: both("rise", place()); break;
                default: both("count", about(0, 12));
            }
        }

        void go() {
            // a last look at all sixteen places takes ten calls each
            while (calls < CALLS - 160) {
                int r = random.nextInt(200);
                if (r == 0) tell();
                else if (r == 1) linkMany();
                else if (r < 4) both("write", about(32, 126));
                else if (r < 60) change();
                else look();
                if (calls == 40 || calls == 250) tell();
            }
            for (int i = 0; i < model.s.n; i++) {
                for (int what = 0; what < 10; what++) both("place", i, what);
            }
        }
    }

    public static void main(String[] args) {
        int wrong = 0;
        int calls = 0;
        for (int k = 0; k < RUNS; k++) {
            Run run = new Run(k);
            run.go();
            wrong += run.wrong;
            calls += run.calls;
        }
        System.out.println(wrong == 0 ? calls + " calls are answered as by the model" : wrong + " answers are not as due");
        if (wrong != 0) System.exit(1);
    }
}
