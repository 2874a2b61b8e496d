import java.util.ArrayList;
import java.util.Arrays;
import java.util.HashMap;
import java.util.List;
import java.util.Map;
import java.util.Random;

/** Random runs of calls against a second program that answers by trying everything. */
public final class ModelTest {
    private static int wrong = 0;

    public static void main(String[] args) {
        for (int run = 0; run < 400 && wrong < 20; run++) {
            new Run(run).play();
        }
        System.out.println(wrong == 0 ? "the model agrees" : wrong + " answers differ from the model");
        if (wrong != 0) {
            System.exit(1);
        }
    }

    private static final class Run {
        final int number;
        final Random dice;
        final HeaviestLightest x = new HeaviestLightest();
        final Model m = new Model();
        final StringBuilder calls = new StringBuilder();

        Run(int number) {
            this.number = number;
            this.dice = new Random(number);
        }

        void play() {
            int before = wrong;
            int left = 512;
            while (left > 0 && wrong == before) {
                if (left > 97 && dice.nextInt(12) == 0) {
                    String text = text();
                    for (int i = 0; i < text.length(); i++, left--) {
                        int c = text.charAt(i);
                        due("feed(" + c + ")", x.feed(c), m.feed(c));
                    }
                    due("barn()", x.barn(), m.barn());
                } else {
                    call();
                }
                left--;
            }
        }

        int digit() {
            return dice.nextInt(8) == 0 ? dice.nextInt(10) : dice.nextInt(m.n);
        }

        int two() {
            return dice.nextInt(10) == 0 ? dice.nextInt(10) - 2 : dice.nextInt(m.n);
        }

        int any(int least, int most) {
            if (dice.nextInt(60) == 0) {
                return dice.nextBoolean() ? Integer.MIN_VALUE : Integer.MAX_VALUE;
            }
            return least - 1 + dice.nextInt(most - least + 3);
        }

        String text() {
            StringBuilder t = new StringBuilder();
            if (dice.nextInt(3) == 0) {
                t.append('n').append(dice.nextInt(10) == 0 ? dice.nextInt(10) : 2 + dice.nextInt(5)).append(';');
            }
            int statements = dice.nextInt(5);
            for (int i = 0; i < statements; i++) {
                switch (dice.nextInt(6)) {
                    case 0: t.append('w').append(digit()).append(dice.nextInt(20) == 0 ? 0 : dice.nextInt(120)).append(';'); break;
                    case 1: t.append('s').append(dice.nextInt(7)).append(dice.nextInt(10)).append(';'); break;
                    case 2: case 3: t.append('b').append(digit()).append(digit()).append(dice.nextInt(15) == 0 ? 3 : dice.nextInt(3)).append(';'); break;
                    case 4: t.append('l').append(digit()).append(digit()).append(';'); break;
                    default: t.append('c').append(digit()).append(digit()).append(';'); break;
                }
            }
            if (dice.nextInt(6) == 0 && t.length() > 0) {
                int at = dice.nextInt(t.length());
                switch (dice.nextInt(3)) {
                    case 0: t.deleteCharAt(at); break;
                    case 1: t.insert(at, "0;nwx/:".charAt(dice.nextInt(7))); break;
                    default: t.setLength(at); break;
                }
            }
            return t.toString();
        }

        void call() {
            int a = two();
            int b = two();
            int k = any(-1, 6);
            int w = any(0, 5);
            switch (dice.nextInt(40)) {
                case 0: due("weight(" + a + ")", x.weight(a), m.weight(a)); break;
                case 1: case 2: { int v = any(1, 99); due("set(" + a + "," + v + ")", x.set(a, v), m.set(a, v)); break; }
                case 3: { int f = any(0, 9); due("scale(" + w + "," + f + ")", x.scale(w, f), m.scale(w, f)); break; }
                case 4: due("would(" + a + "," + b + ")", x.would(a, b), m.would(a, b)); break;
                case 5: case 6: due("weigh(" + a + "," + b + ")", x.weigh(a, b), m.weigh(a, b)); break;
                case 7: { int i = any(0, 23); due("book(" + i + ")", x.book(i), m.book(i)); break; }
                case 8: case 9: due("strike()", x.strike(), m.strike()); break;
                case 10: due("above(" + a + ")", x.above(a), m.above(a)); break;
                case 11: due("ringed()", x.ringed(), m.ringed()); break;
                case 12: due("orders(" + k + ")", x.orders(k), m.orders(k)); break;
                case 13: { int what = any(0, 1); due("next(" + what + ")", x.next(what), m.next(what)); break; }
                case 14: due("lies()", x.lies(), m.lies()); break;
                case 15: due("open()", x.open(), m.open()); break;
                case 16: due("tells(" + w + ")", x.tells(w), m.tells(w)); break;
                case 17: due("worst(" + w + ")", x.worst(w), m.worst(w)); break;
                case 18: { int p = any(0, 1); due("mean(" + w + "," + p + ")", x.mean(w, p), m.mean(w, p)); break; }
                case 19: due("plan(" + w + ")", x.plan(w), m.plan(w)); break;
                case 20: due("found(" + w + "," + k + ")", x.found(w, k), m.found(w, k)); break;
                case 21: case 22: due("compare(" + a + "," + b + ")", x.compare(a, b), m.compare(a, b)); break;
                case 23: if (dice.nextInt(8) == 0) { due("clear()", x.clear(), m.clear()); } break;
                case 24: due("sorts()", x.sorts(), m.sorts()); break;
                case 25: due("gap()", x.gap(), m.gap()); break;
                case 26: due("rounds()", x.rounds(), m.rounds()); break;
                case 27: due("through(" + a + ")", x.through(a), m.through(a)); break;
                case 28: due("idle()", x.idle(), m.idle()); break;
                case 29: due("mends()", x.mends(), m.mends()); break;
                case 30: case 31: due("like(" + a + "," + b + ")", x.like(a, b), m.like(a, b)); break;
                case 32: due("loops()", x.loops(), m.loops()); break;
                case 33: due("turns(" + k + ")", x.turns(k), m.turns(k)); break;
                case 34: { int n = any(1, 20); int what = any(0, 3); due("law(" + n + "," + what + ")", x.law(n, what), m.law(n, what)); break; }
                case 35: judged(); break;
                case 36: { int n = any(1, 20); int z = dice.nextInt(); due("seeds(" + w + "," + n + "," + z + ")", x.seeds(w, n, z), m.seeds(w, n, z)); break; }
                case 37: if (dice.nextInt(2) == 0) { due("image()", x.image(), m.image()); } break;
                case 38: if (dice.nextInt(2) == 0) { due("restore()", x.restore(), m.restore()); } break;
                default: { int what = any(0, 18); due("count(" + what + ")", x.count(what), m.count(what)); break; }
            }
        }

        void judged() {
            int threes = dice.nextInt(4);
            for (int i = 0; i < threes * 3 + (dice.nextInt(4) == 0 ? 1 : 0); i++) {
                int v = i % 3 == 2 ? dice.nextInt(3) : digit();
                if (i % 3 == 2 && m.row.size() == i && dice.nextInt(4) != 0) {
                    int a = m.row.get(i - 2);
                    int b = m.row.get(i - 1);
                    if (a < m.n && b < m.n && a != b) {
                        v = m.tell(a, b, m.book.size() + i / 3);
                    }
                }
                due("row(" + v + ")", x.row(v), m.row(v));
            }
            due("judge()", x.judge(), m.judge());
        }

        void due(String call, long got, long want) {
            calls.append(call).append(' ');
            if (got != want) {
                wrong++;
                System.out.println("run " + number + ": " + calls + "answered " + got + ", due is " + want);
            }
        }
    }

    /** The document once more, by trying everything. */
    private static final class Model {
        int n = 3;
        int[] w = {10, 10, 10, 10, 10, 10};
        int kind;
        int figure;
        List<int[]> book = new ArrayList<>();
        List<int[]> net = new ArrayList<>();
        boolean[][] likes = new boolean[6][6];
        StringBuilder text = new StringBuilder();
        List<Integer> row = new ArrayList<>();
        int[] refused = new int[7];
        Model image;

        int no(int code) {
            refused[-code]++;
            return code;
        }

        boolean stone(int s) {
            return 0 <= s && s < n;
        }

        boolean pair(int a, int b) {
            return stone(a) && stone(b) && a != b;
        }

        void copyTo(Model o) {
            o.n = n;
            o.w = w.clone();
            o.kind = kind;
            o.figure = figure;
            o.book = new ArrayList<>(book);
            o.net = new ArrayList<>(net);
            o.likes = new boolean[6][];
            for (int i = 0; i < 6; i++) {
                o.likes[i] = likes[i].clone();
            }
        }

        int feed(int c) {
            if (c < 0) {
                return no(-4);
            }
            if (c > 255 || text.length() == 96) {
                return no(-6);
            }
            text.append((char) c);
            return text.length();
        }

        static boolean goesOn(String t) {
            String one = "(n[0-9];|w[0-9][0-9]{1,2};|s[0-9]{2};|b[0-9]{3};|l[0-9]{2};|c[0-9]{2};)";
            for (String end : new String[] {"", ";", "0;", "00;", "000;", "n1;"}) {
                if ((t + end).matches(one + "+")) {
                    return true;
                }
            }
            return false;
        }

        int barn() {
            String t = text.toString();
            text.setLength(0);
            for (int i = 1; i <= t.length(); i++) {
                if (!goesOn(t.substring(0, i))) {
                    return -1000 - (i - 1);
                }
            }
            if (t.isEmpty() || t.charAt(t.length() - 1) != ';') {
                return -1000 - t.length();
            }
            Model o = new Model();
            copyTo(o);
            int at = 0;
            String[] statements = t.split(";");
            for (String s : statements) {
                if (!o.statement(s)) {
                    return -2000 - at;
                }
                at += s.length() + 1;
            }
            o.copyTo(this);
            return statements.length;
        }

        boolean statement(String s) {
            int a = s.charAt(1) - '0';
            int b = s.length() > 2 ? s.charAt(2) - '0' : 0;
            switch (s.charAt(0)) {
                case 'n':
                    if (a < 2 || a > 6) {
                        return false;
                    }
                    Model fresh = new Model();
                    fresh.n = a;
                    fresh.kind = kind;
                    fresh.figure = figure;
                    fresh.copyTo(this);
                    return true;
                case 'w': return set(a, Integer.parseInt(s.substring(2))) > 0;
                case 's': return scale(a, b) >= 0;
                case 'b':
                    int told = s.charAt(3) - '0';
                    if (!pair(a, b) || told > 2 || book.size() == 24) {
                        return false;
                    }
                    book.add(new int[] {a, b, told});
                    return true;
                case 'l': return like(a, b) >= 0;
                default: return compare(a, b) > 0;
            }
        }

        int weight(int s) {
            return stone(s) ? w[s] : no(-1);
        }

        int set(int s, int v) {
            if (!stone(s)) {
                return no(-1);
            }
            if (v < 1) {
                return no(-4);
            }
            if (v > 99) {
                return no(-6);
            }
            int was = w[s];
            w[s] = v;
            return was;
        }

        int scale(int k, int f) {
            if (k < 0 || k > 5) {
                return no(-2);
            }
            if (f < 0) {
                return no(-4);
            }
            if (f > 9) {
                return no(-6);
            }
            int was = kind * 10 + figure;
            kind = k;
            figure = f;
            return was;
        }

        int tell(int a, int b, int at) {
            int d = w[a] - w[b];
            int right = Integer.signum(d) + 1;
            int wrongOne = (at + 1) % (figure + 2) == 0 ? 2 - right : right;
            int coarse = Math.abs(d) <= figure ? 1 : right;
            int tired = Math.abs(d) <= figure + at / 5 ? 1 : right;
            return new int[] {right, coarse, wrongOne, coarse == 0 ? 2 : coarse, tired, 2 - wrongOne}[kind];
        }

        int would(int a, int b) {
            return pair(a, b) ? tell(a, b, book.size()) : no(-1);
        }

        int weigh(int a, int b) {
            if (!pair(a, b)) {
                return no(-1);
            }
            if (book.size() == 24) {
                return no(-6);
            }
            int t = tell(a, b, book.size());
            book.add(new int[] {a, b, t});
            return t;
        }

        int book(int i) {
            if (i < 0 || i >= book.size()) {
                return no(-1);
            }
            int[] r = book.get(i);
            return r[0] * 100 + r[1] * 10 + r[2];
        }

        int strike() {
            if (book.isEmpty()) {
                return no(-3);
            }
            book.remove(book.size() - 1);
            return book.size();
        }

        boolean[][] rel(int turned) {
            boolean[][] up = new boolean[6][6];
            for (int i = 0; i < book.size(); i++) {
                int[] r = book.get(i);
                int t = i == turned ? 2 - r[2] : r[2];
                if (t == 2) {
                    up[r[0]][r[1]] = true;
                }
                if (t == 0) {
                    up[r[1]][r[0]] = true;
                }
            }
            for (boolean more = true; more;) {
                more = false;
                for (int a = 0; a < n; a++) {
                    for (int b = 0; b < n; b++) {
                        for (int c = 0; c < n; c++) {
                            if (up[a][b] && up[b][c] && !up[a][c]) {
                                up[a][c] = true;
                                more = true;
                            }
                        }
                    }
                }
            }
            return up;
        }

        int above(int s) {
            if (!stone(s)) {
                return no(-1);
            }
            int bits = 0;
            for (int b = 0; b < n; b++) {
                bits += rel(-1)[s][b] ? 1 << b : 0;
            }
            return bits;
        }

        int ringedBy(int turned) {
            boolean[][] up = rel(turned);
            int bits = 0;
            for (int s = 0; s < n; s++) {
                bits += up[s][s] ? 1 << s : 0;
            }
            return bits;
        }

        int ringed() {
            return ringedBy(-1);
        }

        List<int[]> all() {
            List<int[]> out = new ArrayList<>();
            permute(new int[n], 0, out);
            return out;
        }

        void permute(int[] p, int at, List<int[]> out) {
            if (at == n) {
                out.add(p.clone());
                return;
            }
            for (int s = 0; s < n; s++) {
                boolean used = false;
                for (int i = 0; i < at; i++) {
                    used |= p[i] == s;
                }
                if (!used) {
                    p[at] = s;
                    permute(p, at + 1, out);
                }
            }
        }

        List<int[]> fitting() {
            boolean[][] up = rel(-1);
            List<int[]> out = new ArrayList<>();
            for (int[] p : all()) {
                boolean fits = ringed() == 0;
                for (int i = 0; i < n; i++) {
                    for (int j = i + 1; j < n; j++) {
                        fits &= !up[p[j]][p[i]];
                    }
                }
                if (fits) {
                    out.add(p);
                }
            }
            return out;
        }

        int orders(int k) {
            if (k < -1) {
                return no(-4);
            }
            List<int[]> f = fitting();
            if (k == -1) {
                return f.size();
            }
            return f.isEmpty() || k >= n ? -9 : f.get(0)[k];
        }

        static int indexIn(int[] p, int s) {
            for (int i = 0; i < p.length; i++) {
                if (p[i] == s) {
                    return i;
                }
            }
            return -1;
        }

        int next(int what) {
            if (what != 0 && what != 1) {
                return no(-2);
            }
            boolean[][] up = rel(-1);
            List<int[]> f = fitting();
            int best = Integer.MAX_VALUE;
            int two = -9;
            for (int a = 0; a < n; a++) {
                for (int b = a + 1; b < n; b++) {
                    int x = 0;
                    for (int[] p : f) {
                        x += indexIn(p, a) < indexIn(p, b) ? 1 : 0;
                    }
                    int g = Math.max(x, f.size() - x);
                    if (!f.isEmpty() && !up[a][b] && !up[b][a] && g < best) {
                        best = g;
                        two = 10 * a + b;
                    }
                }
            }
            return two == -9 || what == 0 ? two : best;
        }

        int lies() {
            int bits = 0;
            for (int i = 0; i < book.size() && ringed() != 0; i++) {
                if (book.get(i)[2] != 1 && ringedBy(i) == 0) {
                    bits |= 1 << i;
                }
            }
            return bits;
        }

        int open() {
            boolean[][] up = rel(-1);
            int pairs = 0;
            for (int a = 0; a < n; a++) {
                for (int b = 0; b < a; b++) {
                    pairs += up[a][b] || up[b][a] ? 0 : 1;
                }
            }
            return pairs;
        }

        static String answer(int wanted, int[] p) {
            int m = p.length;
            String first = "h" + p[0];
            String last = "l" + p[m - 1];
            return new String[] {first, last, first + last, first + p[1], "m" + p[m / 2], Arrays.toString(p)}[wanted];
        }

        static boolean told(int wanted, List<int[]> f) {
            for (int[] p : f) {
                if (!answer(wanted, p).equals(answer(wanted, f.get(0)))) {
                    return false;
                }
            }
            return true;
        }

        int unfit(int wanted) {
            if (wanted < 0 || wanted > 5) {
                return no(-2);
            }
            return n > 4 || ringed() != 0 ? no(-3) : 0;
        }

        int tells(int wanted) {
            int u = unfit(wanted);
            return u != 0 ? u : told(wanted, fitting()) ? 1 : 0;
        }

        static final Map<String, int[]> SOLVED = new HashMap<>();

        int[] solve(int wanted, List<int[]> f) {
            if (told(wanted, f)) {
                return new int[] {0, 0};
            }
            StringBuilder key = new StringBuilder().append(wanted);
            for (int[] p : f) {
                key.append(Arrays.toString(p));
            }
            int[] best = SOLVED.get(key.toString());
            if (best != null) {
                return best;
            }
            best = new int[] {999, 9999};
            for (int a = 0; a < n; a++) {
                for (int b = a + 1; b < n; b++) {
                    List<int[]> yes = new ArrayList<>();
                    List<int[]> not = new ArrayList<>();
                    for (int[] p : f) {
                        (indexIn(p, a) < indexIn(p, b) ? yes : not).add(p);
                    }
                    if (!yes.isEmpty() && !not.isEmpty()) {
                        int[] y = solve(wanted, yes);
                        int[] o = solve(wanted, not);
                        best[0] = Math.min(best[0], 1 + Math.max(y[0], o[0]));
                        best[1] = Math.min(best[1], f.size() + y[1] + o[1]);
                    }
                }
            }
            SOLVED.put(key.toString(), best);
            return best;
        }

        int worst(int wanted) {
            int u = unfit(wanted);
            return u != 0 ? u : solve(wanted, fitting())[0];
        }

        long mean(int wanted, int part) {
            if (part != 0 && part != 1) {
                return 4000000000000000000L - no(-2);
            }
            int u = unfit(wanted);
            if (u != 0) {
                return 4000000000000000000L - u;
            }
            List<int[]> f = fitting();
            int sum = solve(wanted, f)[1];
            int a = sum;
            int b = f.size();
            while (b != 0) {
                int r = a % b;
                a = b;
                b = r;
            }
            return part == 0 ? sum / a : f.size() / a;
        }

        int weighed;

        boolean beats(int[] by, int a, int b) {
            weighed++;
            return by[a] != by[b] ? by[a] > by[b] : a < b;
        }

        int extreme(int[] by, List<Integer> of, boolean heaviest) {
            int best = of.get(0);
            for (int s : of.subList(1, of.size())) {
                if (beats(by, s, best) == heaviest) {
                    best = s;
                }
            }
            return best;
        }

        List<Integer> inserted(int[] by, List<Integer> of) {
            List<Integer> out = new ArrayList<>();
            for (int s : of) {
                List<Integer> part = out;
                int at = 0;
                while (!part.isEmpty()) {
                    int mid = part.size() / 2;
                    if (beats(by, s, part.get(mid))) {
                        part = part.subList(0, mid);
                    } else {
                        at += mid + 1;
                        part = part.subList(mid + 1, part.size());
                    }
                }
                out.add(at, s);
            }
            return out;
        }

        List<Integer> merged(int[] by, List<Integer> of, boolean half) {
            if (of.size() < 2) {
                return of;
            }
            if (half && of.size() <= 3) {
                return inserted(by, of);
            }
            int m = of.size() / 2;
            List<Integer> a = new ArrayList<>(merged(by, of.subList(0, m), half));
            List<Integer> b = new ArrayList<>(merged(by, of.subList(m, of.size()), half));
            List<Integer> out = new ArrayList<>();
            while (!a.isEmpty() && !b.isEmpty()) {
                out.add(beats(by, a.get(0), b.get(0)) ? a.remove(0) : b.remove(0));
            }
            out.addAll(a);
            out.addAll(b);
            return out;
        }

        List<Integer> run(int k, int[] by) {
            weighed = 0;
            List<Integer> all = new ArrayList<>();
            for (int s = 0; s < n; s++) {
                all.add(s);
            }
            switch (k) {
                case 0: {
                    int h = extreme(by, all, true);
                    all.remove(Integer.valueOf(h));
                    return List.of(h, extreme(by, all, false));
                }
                case 1: {
                    List<Integer> up = new ArrayList<>();
                    List<Integer> down = new ArrayList<>();
                    for (int s = 0; s < n; s += 2) {
                        if (s + 1 == n) {
                            up.add(s);
                            down.add(s);
                        } else {
                            boolean first = beats(by, s, s + 1);
                            up.add(first ? s : s + 1);
                            down.add(first ? s + 1 : s);
                        }
                    }
                    int h = extreme(by, up, true);
                    return List.of(h, extreme(by, down, false));
                }
                case 2: {
                    Map<Integer, List<Integer>> beaten = new HashMap<>();
                    for (int s : all) {
                        beaten.put(s, new ArrayList<>());
                    }
                    while (all.size() > 1) {
                        List<Integer> on = new ArrayList<>();
                        for (int i = 0; i + 1 < all.size(); i += 2) {
                            int a = all.get(i);
                            int b = all.get(i + 1);
                            int win = beats(by, a, b) ? a : b;
                            beaten.get(win).add(a + b - win);
                            on.add(win);
                        }
                        if (all.size() % 2 == 1) {
                            on.add(all.get(all.size() - 1));
                        }
                        all = on;
                    }
                    return List.of(all.get(0), extreme(by, beaten.get(all.get(0)), true));
                }
                case 3: return inserted(by, all);
                default: return merged(by, all, k == 5);
            }
        }

        int plan(int k) {
            if (k < 0 || k > 5) {
                return no(-2);
            }
            run(k, w);
            return weighed;
        }

        int found(int k, int place) {
            if (k < 0 || k > 5) {
                return no(-2);
            }
            if (place < 0) {
                return no(-4);
            }
            List<Integer> r = run(k, w);
            return place < r.size() ? r.get(place) : -9;
        }

        int compare(int p, int q) {
            if (!stone(p) || !stone(q) || p >= q) {
                return no(-1);
            }
            if (net.size() == 12) {
                return no(-6);
            }
            net.add(new int[] {p, q});
            return net.size();
        }

        int clear() {
            int had = net.size();
            net.clear();
            return had;
        }

        int gapOf(List<int[]> of) {
            int gap = 0;
            for (int code = 0; code < 1 << n; code++) {
                int[] v = new int[n];
                for (int i = 0; i < n; i++) {
                    v[i] = code >> i & 1;
                }
                for (int[] c : of) {
                    if (v[c[1]] > v[c[0]]) {
                        v[c[0]] = 1;
                        v[c[1]] = 0;
                    }
                }
                boolean sorted = true;
                for (int i = 1; i < n; i++) {
                    sorted &= v[i - 1] >= v[i];
                }
                gap += sorted ? 0 : 1;
            }
            return gap;
        }

        int sorts() {
            return gapOf(net) == 0 ? 1 : 0;
        }

        int gap() {
            return gapOf(net);
        }

        int rounds() {
            int[] deep = new int[net.size()];
            int most = 0;
            for (int i = 0; i < deep.length; i++) {
                for (int j = 0; j < i; j++) {
                    int[] a = net.get(i);
                    int[] b = net.get(j);
                    if (a[0] == b[0] || a[0] == b[1] || a[1] == b[0] || a[1] == b[1]) {
                        deep[i] = Math.max(deep[i], deep[j]);
                    }
                }
                deep[i]++;
                most = Math.max(most, deep[i]);
            }
            return most;
        }

        int through(int place) {
            if (!stone(place)) {
                return no(-1);
            }
            int[] on = {0, 1, 2, 3, 4, 5};
            for (int[] c : net) {
                if (w[on[c[1]]] > w[on[c[0]]]) {
                    int t = on[c[0]];
                    on[c[0]] = on[c[1]];
                    on[c[1]] = t;
                }
            }
            return on[place];
        }

        int idle() {
            int bits = 0;
            for (int i = 0; i < net.size(); i++) {
                boolean idle = true;
                for (int code = 0; code < 1 << n; code++) {
                    int[] v = new int[n];
                    for (int k = 0; k < n; k++) {
                        v[k] = code >> k & 1;
                    }
                    for (int j = 0; j <= i; j++) {
                        int[] c = net.get(j);
                        if (v[c[1]] > v[c[0]]) {
                            v[c[0]] = 1;
                            v[c[1]] = 0;
                            idle &= j != i;
                        }
                    }
                }
                bits |= idle ? 1 << i : 0;
            }
            return bits;
        }

        int mends() {
            int best = gapOf(net);
            int mend = -9;
            for (int two = 0; two < 100; two++) {
                if (two / 10 < two % 10 && two % 10 < n) {
                    List<int[]> more = new ArrayList<>(net);
                    more.add(new int[] {two / 10, two % 10});
                    if (gapOf(more) < best) {
                        best = gapOf(more);
                        mend = two;
                    }
                }
            }
            return mend;
        }

        int like(int a, int b) {
            if (!pair(a, b)) {
                return no(-1);
            }
            int was = likes[a][b] ? 2 : likes[b][a] ? 0 : 1;
            likes[a][b] = true;
            likes[b][a] = false;
            return was;
        }

        int loops() {
            int times = 0;
            for (int a = 0; a < n; a++) {
                for (int b = 0; b < n; b++) {
                    for (int c = 0; c < n; c++) {
                        times += likes[a][b] && likes[b][c] && likes[c][a] ? 1 : 0;
                    }
                }
            }
            return times / 3;
        }

        int turns(int k) {
            if (k < -1) {
                return no(-4);
            }
            int best = 999;
            int[] first = null;
            for (int[] p : all()) {
                int turned = 0;
                for (int i = 0; i < n; i++) {
                    for (int j = i + 1; j < n; j++) {
                        turned += likes[p[j]][p[i]] ? 1 : 0;
                    }
                }
                if (turned < best) {
                    best = turned;
                    first = p;
                }
            }
            return k == -1 ? best : k < n ? first[k] : -9;
        }

        static int log(int k) {
            int m = 0;
            while (1L << m < k) {
                m++;
            }
            return m;
        }

        int law(int k, int what) {
            if (k < 1) {
                return no(-4);
            }
            if (k > 20) {
                return no(-6);
            }
            switch (what) {
                case 0: return k == 1 ? 0 : (int) Math.ceil(1.5 * k) - 2;
                case 1: return k == 1 ? 0 : k - 2 + log(k);
                case 2: {
                    int sum = 0;
                    for (int i = 1; i <= k; i++) {
                        sum += log(i);
                    }
                    return sum;
                }
                case 3: {
                    java.math.BigInteger f = java.math.BigInteger.ONE;
                    for (int i = 1; i <= k; i++) {
                        f = f.multiply(java.math.BigInteger.valueOf(i));
                    }
                    return f.subtract(java.math.BigInteger.ONE).bitLength();
                }
                default: return no(-2);
            }
        }

        int row(int v) {
            if (v < 0) {
                return no(-4);
            }
            if (v > 9 || row.size() == 12) {
                return no(-6);
            }
            row.add(v);
            return row.size();
        }

        int judge() {
            List<Integer> r = row;
            row = new ArrayList<>();
            for (int i = 0; i < r.size(); i += 3) {
                if (r.size() < i + 3) {
                    return i;
                }
                if (!stone(r.get(i))) {
                    return i;
                }
                if (!stone(r.get(i + 1)) || r.get(i).equals(r.get(i + 1))) {
                    return i + 1;
                }
                if (r.get(i + 2) != tell(r.get(i), r.get(i + 1), book.size() + i / 3)) {
                    return i + 2;
                }
            }
            return -9;
        }

        int seeds(int k, int times, int z) {
            if (k < 0 || k > 5) {
                return no(-2);
            }
            if (times < 1) {
                return no(-4);
            }
            if (times > 20) {
                return no(-6);
            }
            int sum = 0;
            for (int t = 0; t < times; t++) {
                int[] by = new int[n];
                for (int s = 0; s < n; s++) {
                    z = z * 1103515245 + 12345;
                    by[s] = 1 + (z << 1 >>> 17) % 99;
                }
                run(k, by);
                sum += weighed;
            }
            return sum;
        }

        int image() {
            image = new Model();
            copyTo(image);
            return book.size();
        }

        int restore() {
            if (image == null) {
                return no(-3);
            }
            image.copyTo(this);
            return book.size();
        }

        int count(int what) {
            int liked = 0;
            int heavy = 0;
            for (int a = 0; a < n; a++) {
                heavy += w[a];
                for (int b = 0; b < n; b++) {
                    liked += likes[a][b] ? 1 : 0;
                }
            }
            int[] counts = {n, book.size(), net.size(), liked, heavy, text.length(), row.size()};
            if (what >= 0 && what < 7) {
                return counts[what];
            }
            return what >= 11 && what <= 16 ? refused[what - 10] : -9;
        }
    }
}
