import java.math.BigInteger;
import java.util.ArrayList;
import java.util.BitSet;
import java.util.List;
import java.util.Map;
import java.util.Random;
import java.util.TreeMap;
import java.util.TreeSet;

/**
 * Runs of made-up calls, the same ones each time, on the class and on a second
 * writing of the document that goes by its words without regard for speed.
 */
public final class ModelTest {
    private static final int BAD = -1, NOT = -2, FULL = -3, VOID = -2000000000;
    private static final int RUNS = 1500;
    private static final int CALLS = 512;
    private static int wrong = 0;
    private static final Map<String, TreeMap<String, Integer>> seen = new TreeMap<>();

    // ---- the second writing

    private static final class Kite {
        final List<int[]> panels = new ArrayList<>();
        int knot = 0;
        int line = -1;
        int step = 0;
    }

    private static final class Line {
        int steps, strength, weight;
        final TreeSet<Integer> knots = new TreeSet<>();
    }

    private static final class Flyer {
        int x, y, line;
        boolean flies;
        final TreeSet<Integer> friends = new TreeSet<>();
    }

    private static final class Model {
        final List<Kite> kites = new ArrayList<>();
        final List<Line> lines = new ArrayList<>();
        final List<Flyer> flyers = new ArrayList<>();
        final TreeSet<Integer> trees = new TreeSet<>();
        final List<int[]> row = new ArrayList<>();
        final int[][] tables = new int[2][18];
        int[] winds = new int[20];
        int direction = 0;
        int shift = 200;

        Model() {
            for (int a = 0; a < 18; a++) {
                tables[0][a] = a < 10 ? 9 * a : 162 - 9 * a;
                tables[1][a] = 2 * a;
            }
            for (int h = 0; h < 20; h++) {
                winds[h] = 10;
            }
        }

        static boolean out(int v, int low, int high) {
            return v < low || v > high;
        }

        boolean noKite(int k) {
            return out(k, 0, kites.size() - 1);
        }

        boolean noLine(int l) {
            return out(l, 0, lines.size() - 1);
        }

        boolean noFlyer(int f) {
            return out(f, 0, flyers.size() - 1);
        }

        long up(Kite k, int wind, int angle) {
            long sum = 0;
            for (int[] p : k.panels) {
                sum += (long) p[0] * tables[0][angle] * wind * wind / 1000;
            }
            return sum - weights(k);
        }

        long weights(Kite k) {
            return k.panels.stream().mapToLong(p -> p[2]).sum();
        }

        long back(Kite k, int wind, int angle) {
            long sum = 0;
            for (int[] p : k.panels) {
                sum += (long) p[0] * tables[1][angle] * wind * wind / 1000;
            }
            return sum;
        }

        long turning(Kite k, int knot, int wind, int angle) {
            long sum = 0;
            for (int[] p : k.panels) {
                long lift = (long) p[0] * tables[0][angle] * wind * wind / 1000;
                sum += (lift - p[2]) * (p[1] - knot);
            }
            return sum;
        }

        int standing(Kite k, int knot, int wind) {
            if (k.panels.isEmpty()) {
                return NOT;
            }
            for (int a = 0; a <= 17; a++) {
                long here = turning(k, knot, wind, a);
                if (here == 0) {
                    return a;
                }
                if (a <= 16 && Long.signum(here) == -Long.signum(turning(k, knot, wind, a + 1))) {
                    return a;
                }
            }
            return NOT;
        }

        boolean isSteady(Kite k, int knot, int wind, int a) {
            return turning(k, knot, wind, a == 0 ? 0 : a - 1) >= 0
                && turning(k, knot, wind, a == 17 ? 17 : a + 1) <= 0;
        }

        long pullUp(Kite k, int wind) {
            int a = standing(k, k.knot, wind);
            return a == NOT ? -weights(k) : up(k, wind, a);
        }

        long pullBack(Kite k, int wind) {
            int a = standing(k, k.knot, wind);
            return a == NOT ? 0 : back(k, wind, a);
        }

        int windAt(int h) {
            return h / 10 > 19 ? winds[19] : winds[h / 10];
        }

        long across(int line, int s) {
            long sum = 0;
            for (Kite k : kites) {
                if (k.line == line && k.step >= s) {
                    sum += pullBack(k, windAt(k.step));
                }
            }
            return sum;
        }

        long alongUp(int line, int s) {
            Line l = lines.get(line);
            long sum = 0;
            for (Kite k : kites) {
                if (k.line == line && k.step >= s) {
                    sum += pullUp(k, windAt(k.step));
                }
            }
            for (int t = s; t <= l.steps; t++) {
                sum -= l.weight;
            }
            return sum;
        }

        long tension(int line, int s) {
            BigInteger a = BigInteger.valueOf(across(line, s));
            BigInteger u = BigInteger.valueOf(alongUp(line, s));
            return a.multiply(a).add(u.multiply(u)).sqrt().longValueExact();
        }

        long place(int line, int step, boolean upward) {
            long place = 0;
            for (int s = 1; s <= step; s++) {
                long t = tension(line, s);
                if (t != 0) {
                    place += 100 * (upward ? alongUp(line, s) : across(line, s)) / t;
                }
            }
            return place;
        }

        int strength(Line l, int s) {
            return l.knots.contains(s) ? 3 * l.strength / 4 : l.strength;
        }

        int parts(int line) {
            Line l = lines.get(line);
            long best = 0;
            int at = NOT;
            for (int s = l.steps; s >= 1; s--) {
                long over = tension(line, s) - strength(l, s);
                if (over > 0 && over >= best) {
                    best = over;
                    at = s;
                }
            }
            return at;
        }

        void parted(int line, int p) {
            Line l = lines.get(line);
            l.steps = p - 1;
            l.knots.removeIf(s -> s >= p);
            for (Kite k : kites) {
                if (k.line == line && k.step >= p) {
                    k.line = -1;
                }
            }
        }

        long lifts(int line) {
            return lines.get(line).steps == 0 ? 0 : alongUp(line, 1);
        }

        int kitesOn(int line) {
            return (int) kites.stream().filter(k -> k.line == line).count();
        }

        boolean inCone(Flyer f, int x, int y) {
            int n = lines.get(f.line).steps;
            int dx = x - f.x;
            int dy = y - f.y;
            int further = direction == 0 ? dx : direction == 1 ? dy : direction == 2 ? -dx : -dy;
            int side = Math.abs(direction == 0 || direction == 2 ? dy : dx);
            return further >= 0 && further <= n && side <= n && side <= shift;
        }

        BitSet places(Flyer f) {
            BitSet set = new BitSet(40000);
            for (int x = 0; x < 200; x++) {
                for (int y = 0; y < 200; y++) {
                    if (inCone(f, x, y)) {
                        set.set(200 * x + y);
                    }
                }
            }
            return set;
        }

        int reason(int flyer) {
            Flyer f = flyers.get(flyer);
            BitSet own = places(f);
            for (int t : trees) {
                if (own.get(t)) {
                    return 1;
                }
            }
            for (int o = 0; o < flyers.size(); o++) {
                Flyer other = flyers.get(o);
                if (o != flyer && other.flies && !f.friends.contains(o) && own.intersects(places(other))) {
                    return 2;
                }
            }
            return 0;
        }

        static boolean undoes(int[] t, int[] u) {
            return t[0] == u[0] && t[1] == u[1] && t[2] == -u[2];
        }

        void reduce() {
            boolean again = true;
            while (again) {
                again = false;
                for (int i = 0; i + 1 < row.size() && !again; i++) {
                    if (undoes(row.get(i), row.get(i + 1))) {
                        row.remove(i + 1);
                        row.remove(i);
                        again = true;
                    }
                }
            }
        }

        static boolean has(int[] t, int line) {
            return t[0] == line || t[1] == line;
        }

        int tangledTurns(int a, int b) {
            return (int) row.stream().filter(t -> a != b && has(t, a) && has(t, b)).count();
        }

        int undone(int line) {
            int n = 0;
            List<int[]> rest = new ArrayList<>(row);
            while (rest.stream().anyMatch(t -> has(t, line))) {
                rest.remove(rest.size() - 1);
                n++;
            }
            return n;
        }

        // ---- the calls

        long kiteCalls(String name, int a, int b, int c, int d) {
            switch (name) {
                case "kite":
                    if (kites.size() == 20) {
                        return FULL;
                    }
                    kites.add(new Kite());
                    return kites.size() - 1;
                case "panel":
                    if (noKite(a) || out(b, 1, 99) || out(c, -99, 99) || out(d, 0, 99)) {
                        return BAD;
                    }
                    if (kites.get(a).panels.size() == 6) {
                        return FULL;
                    }
                    kites.get(a).panels.add(new int[] {b, c, d});
                    return kites.get(a).panels.size() - 1;
                case "knot": {
                    if (noKite(a) || out(b, -99, 99)) {
                        return VOID;
                    }
                    int was = kites.get(a).knot;
                    kites.get(a).knot = b;
                    return was;
                }
                case "table": {
                    if (out(a, 0, 17) || out(b, 0, 1) || out(c, b == 0 ? -99 : 0, 99)) {
                        return VOID;
                    }
                    int was = tables[b][a];
                    tables[b][a] = c;
                    return was;
                }
                case "force":
                    if (noKite(a) || out(b, 0, 99) || out(c, 0, 17) || out(d, 0, 2)) {
                        return VOID;
                    }
                    return d == 0 ? up(kites.get(a), b, c) : d == 1 ? back(kites.get(a), b, c)
                        : turning(kites.get(a), kites.get(a).knot, b, c);
                case "stands":
                    return noKite(a) || out(b, 0, 99) ? BAD : standing(kites.get(a), kites.get(a).knot, b);
                case "steady": {
                    if (noKite(a) || out(b, 0, 99)) {
                        return BAD;
                    }
                    Kite k = kites.get(a);
                    int angle = standing(k, k.knot, b);
                    return angle == NOT ? NOT : isSteady(k, k.knot, b, angle) ? 1 : 0;
                }
                case "pull":
                    if (noKite(a) || out(b, 0, 99) || out(c, 0, 1)) {
                        return VOID;
                    }
                    return c == 0 ? pullUp(kites.get(a), b) : pullBack(kites.get(a), b);
                default: {
                    if (noKite(a) || out(b, 0, 99) || out(c, 0, 17) || out(d, 0, 17) || c > d) {
                        return VOID;
                    }
                    for (int arm = -99; arm <= 99; arm++) {
                        int angle = standing(kites.get(a), arm, b);
                        if (angle >= c && angle <= d && isSteady(kites.get(a), arm, b, angle)) {
                            return arm;
                        }
                    }
                    return VOID;
                }
            }
        }

        long lineCalls(String name, int a, int b, int c) {
            switch (name) {
                case "wind": {
                    if (out(a, 0, 19) || out(b, 0, 99)) {
                        return BAD;
                    }
                    int was = winds[a];
                    winds[a] = b;
                    return was;
                }
                case "line": {
                    if (out(a, 1, 200) || out(b, 1, 99999) || out(c, 0, 9)) {
                        return BAD;
                    }
                    if (lines.size() == 10) {
                        return FULL;
                    }
                    Line l = new Line();
                    l.steps = a;
                    l.strength = b;
                    l.weight = c;
                    lines.add(l);
                    return lines.size() - 1;
                }
                case "tie":
                    if (noKite(a) || noLine(b) || out(c, 1, lines.get(b).steps)) {
                        return BAD;
                    }
                    if (kites.get(a).line >= 0) {
                        return NOT;
                    }
                    kites.get(a).line = b;
                    kites.get(a).step = c;
                    return kitesOn(b);
                case "untie": {
                    if (noKite(a)) {
                        return BAD;
                    }
                    int was = kites.get(a).line;
                    kites.get(a).line = -1;
                    return was < 0 ? NOT : was;
                }
                case "weaken": {
                    if (noLine(a) || out(b, 1, lines.get(a).steps) || lines.get(a).knots.contains(b)) {
                        return BAD;
                    }
                    TreeSet<Integer> knots = lines.get(a).knots;
                    if (knots.size() == 10) {
                        return FULL;
                    }
                    knots.add(b);
                    return knots.size();
                }
                case "ofLine":
                    if (noLine(a) || out(b, 0, 4)) {
                        return VOID;
                    }
                    return b == 0 ? lines.get(a).steps : b == 1 ? kitesOn(a) : b == 2 ? lines.get(a).knots.size()
                        : b == 3 ? lifts(a) : parts(a) == NOT ? 0 : 1;
                case "step":
                    if (noLine(a) || out(b, 1, lines.get(a).steps) || out(c, 0, 5)) {
                        return VOID;
                    }
                    return c == 0 ? across(a, b) : c == 1 ? alongUp(a, b) : c == 2 ? tension(a, b)
                        : c == 3 ? place(a, b, false) : c == 4 ? place(a, b, true) : strength(lines.get(a), b);
                case "part": {
                    if (noLine(a)) {
                        return BAD;
                    }
                    int p = parts(a);
                    if (p != NOT) {
                        parted(a, p);
                    }
                    return p;
                }
                default: {
                    if (noLine(a) || out(b, 0, 99999)) {
                        return BAD;
                    }
                    int[] kept = winds;
                    long answer = NOT;
                    for (int v = 0; v <= 99 && answer == NOT; v++) {
                        winds = new int[20];
                        java.util.Arrays.fill(winds, v);
                        answer = lifts(a) >= b ? v : NOT;
                    }
                    winds = kept;
                    return answer;
                }
            }
        }

        long fieldCalls(String name, int a, int b, int c) {
            switch (name) {
                case "flyer": {
                    if (out(a, 0, 39999) || noLine(b)) {
                        return BAD;
                    }
                    if (flyers.stream().anyMatch(f -> f.line == b)) {
                        return NOT;
                    }
                    Flyer f = new Flyer();
                    f.x = a / 200;
                    f.y = a % 200;
                    f.line = b;
                    flyers.add(f);
                    return flyers.size() - 1;
                }
                case "blow": {
                    if (out(a, 0, 3) || out(b, 0, 200)) {
                        return BAD;
                    }
                    int was = 10 * shift + direction;
                    direction = a;
                    shift = b;
                    return was;
                }
                case "tree":
                    if (out(a, 0, 39999) || trees.contains(a)) {
                        return BAD;
                    }
                    if (trees.size() == 20) {
                        return FULL;
                    }
                    trees.add(a);
                    return trees.size();
                case "agree": {
                    if (noFlyer(a) || noFlyer(b) || a == b || out(c, 0, 1)) {
                        return BAD;
                    }
                    int was = flyers.get(a).friends.contains(b) ? 1 : 0;
                    if (c == 1) {
                        flyers.get(a).friends.add(b);
                        flyers.get(b).friends.add(a);
                    } else {
                        flyers.get(a).friends.remove(b);
                        flyers.get(b).friends.remove(a);
                    }
                    return was;
                }
                case "fly":
                    if (noFlyer(a) || out(b, 0, 1)) {
                        return BAD;
                    }
                    if (b == 1 && reason(a) != 0) {
                        return -10 - reason(a);
                    }
                    flyers.get(a).flies = b == 1;
                    return 1;
                case "why":
                    return noFlyer(a) ? BAD : reason(a);
                default:
                    return noFlyer(a) || out(b, 0, 39999) ? BAD : inCone(flyers.get(a), b / 200, b % 200) ? 1 : 0;
            }
        }

        long turnCalls(String name, int a, int b, int c) {
            switch (name) {
                case "turn":
                    if (noLine(a) || noLine(b) || a == b || (c != 1 && c != -1)) {
                        return BAD;
                    }
                    row.add(new int[] {Math.min(a, b), Math.max(a, b), c});
                    reduce();
                    if (row.size() > 200) {
                        row.remove(row.size() - 1);
                        return FULL;
                    }
                    return row.size();
                case "tangled":
                    return noLine(a) || noLine(b) || a == b ? BAD : tangledTurns(a, b);
                case "undo":
                    return noLine(a) ? BAD : undone(a);
                case "unwind":
                    if (out(a, 1, row.size())) {
                        return BAD;
                    }
                    for (int i = 0; i < a; i++) {
                        row.remove(row.size() - 1);
                    }
                    return row.size();
                case "cut":
                    if (noLine(a) || noLine(b) || a == b || out(c, 1, lines.get(b).steps)) {
                        return BAD;
                    }
                    if (tangledTurns(a, b) == 0) {
                        return NOT;
                    }
                    parted(b, c);
                    row.removeIf(t -> has(t, b));
                    reduce();
                    return row.size();
                default:
                    return counted(a);
            }
        }

        long counted(int what) {
            switch (what) {
                case 0: return kites.size();
                case 1: return lines.size();
                case 2: return flyers.size();
                case 3: return flyers.stream().filter(f -> f.flies).count();
                case 4: return trees.size();
                case 5: return row.size();
                case 6: return kites.stream().filter(k -> k.line >= 0).count();
                case 7: {
                    long free = 0;
                    for (int l = 0; l < lines.size(); l++) {
                        free += undone(l) == 0 ? 1 : 0;
                    }
                    return free;
                }
                default: return BAD;
            }
        }
    }

    // ---- calls of both

    private static long modelAnswer(Model m, String name, int[] v) {
        switch (name) {
            case "kite": case "panel": case "knot": case "table": case "force":
            case "stands": case "steady": case "pull": case "trim":
                return m.kiteCalls(name, v[0], v[1], v[2], v[3]);
            case "wind": case "line": case "tie": case "untie": case "weaken":
            case "ofLine": case "step": case "part": case "least":
                return m.lineCalls(name, v[0], v[1], v[2]);
            case "flyer": case "blow": case "tree": case "agree": case "fly": case "why": case "cone":
                return m.fieldCalls(name, v[0], v[1], v[2]);
            default:
                return m.turnCalls(name, v[0], v[1], v[2]);
        }
    }

    private static long bookAnswer(BridleBook x, String name, int[] v) {
        switch (name) {
            case "kite": return x.kite();
            case "panel": return x.panel(v[0], v[1], v[2], v[3]);
            case "knot": return x.knot(v[0], v[1]);
            case "table": return x.table(v[0], v[1], v[2]);
            case "force": return x.force(v[0], v[1], v[2], v[3]);
            case "stands": return x.stands(v[0], v[1]);
            case "steady": return x.steady(v[0], v[1]);
            case "pull": return x.pull(v[0], v[1], v[2]);
            case "trim": return x.trim(v[0], v[1], v[2], v[3]);
            case "wind": return x.wind(v[0], v[1]);
            case "line": return x.line(v[0], v[1], v[2]);
            case "tie": return x.tie(v[0], v[1], v[2]);
            case "untie": return x.untie(v[0]);
            case "weaken": return x.weaken(v[0], v[1]);
            case "ofLine": return x.ofLine(v[0], v[1]);
            case "step": return x.step(v[0], v[1], v[2]);
            case "part": return x.part(v[0]);
            case "least": return x.least(v[0], v[1]);
            case "flyer": return x.flyer(v[0], v[1]);
            case "blow": return x.blow(v[0], v[1]);
            case "tree": return x.tree(v[0]);
            case "agree": return x.agree(v[0], v[1], v[2]);
            case "fly": return x.fly(v[0], v[1]);
            case "why": return x.why(v[0]);
            case "cone": return x.cone(v[0], v[1]);
            case "turn": return x.turn(v[0], v[1], v[2]);
            case "tangled": return x.tangled(v[0], v[1]);
            case "undo": return x.undo(v[0]);
            case "unwind": return x.unwind(v[0]);
            case "cut": return x.cut(v[0], v[1], v[2]);
            default: return x.count(v[0]);
        }
    }

    // ---- made-up calls

    private static final String[] KITES = {
        "kite", "panel", "panel", "panel", "knot", "table", "force", "stands", "steady", "pull", "trim"};
    private static final String[] LINES = {"wind", "line", "tie", "tie", "tie", "untie", "weaken", "weaken",
        "ofLine", "step", "step", "step", "part", "least"};
    private static final String[] FIELD = {
        "flyer", "blow", "tree", "agree", "agree", "fly", "fly", "why", "why", "cone", "cone"};
    private static final String[] TURNS = {
        "turn", "turn", "turn", "turn", "tangled", "undo", "unwind", "cut", "count"};
    // Turns nearly alone, so that the row gets full and is undone from there.
    private static final String[] WINDING = {
        "turn", "turn", "turn", "turn", "turn", "turn", "turn", "turn", "turn", "tangled", "undo", "cut"};
    private static final String[][] GROUPS = {KITES, LINES, FIELD, TURNS, WINDING};
    private static final int[] ODD = {-1, Integer.MIN_VALUE, Integer.MAX_VALUE, -100, 100, 18, 20, 201, 40000, 100000};

    private static int between(Random r, int low, int high) {
        int edge = r.nextInt(12);
        return edge == 0 ? low : edge == 1 ? high : low + r.nextInt(Math.max(1, high - low + 1));
    }

    /** Near one corner mostly, so that cones meet and just miss one another. */
    private static int somePlace(Random r) {
        int x = r.nextInt(3) == 0 ? between(r, 0, 199) : between(r, 0, 30);
        int y = r.nextInt(3) == 0 ? between(r, 0, 199) : between(r, 0, 30);
        return 200 * x + y;
    }

    private static int stepOf(Random r, Model m, int line) {
        return m.noLine(line) ? 1 : between(r, 1, Math.max(1, m.lines.get(line).steps));
    }

    private static int[] arguments(Random r, Model m, String name, boolean tame) {
        int kite = between(r, 0, Math.max(0, m.kites.size() - 1));
        int line = between(r, 0, Math.max(0, m.lines.size() - 1));
        int line2 = between(r, 0, Math.max(0, m.lines.size() - 1));
        int flyer = between(r, 0, Math.max(0, m.flyers.size() - 1));
        int flyer2 = between(r, 0, Math.max(0, m.flyers.size() - 1));
        int wind = between(r, 0, tame ? 20 : 99);
        switch (name) {
            case "panel": return new int[] {kite, between(r, 1, 99), between(r, -99, 99), between(r, 0, tame ? 9 : 99)};
            case "knot": return new int[] {kite, between(r, -99, 99), 0, 0};
            case "table": {
                int what = r.nextInt(2);
                return new int[] {between(r, 0, 17), what, between(r, what == 0 ? -99 : 0, 99), 0};
            }
            case "force": return new int[] {kite, wind, between(r, 0, 17), r.nextInt(3)};
            case "stands": case "steady": return new int[] {kite, wind, 0, 0};
            case "pull": return new int[] {kite, wind, r.nextInt(2), 0};
            case "trim": {
                int a = between(r, 0, 17);
                return new int[] {kite, wind, a, r.nextInt(8) == 0 ? a - 1 : between(r, a, 17)};
            }
            case "wind": return new int[] {between(r, 0, 19), wind, 0, 0};
            case "line": return new int[] {between(r, 1, tame ? 40 : 200), between(r, 1, tame ? 300 : 99999), between(r, 0, 9), 0};
            case "tie": return new int[] {kite, line, stepOf(r, m, line), 0};
            case "weaken": return new int[] {line, stepOf(r, m, line), 0, 0};
            case "ofLine": return new int[] {line, r.nextInt(5), 0, 0};
            case "step": return new int[] {line, stepOf(r, m, line), r.nextInt(6), 0};
            case "least": return new int[] {line, r.nextBoolean() ? between(r, 0, 200) : between(r, 0, 99999), 0, 0};
            case "flyer": return new int[] {somePlace(r), line, 0, 0};
            case "blow": return new int[] {r.nextInt(4), between(r, 0, r.nextBoolean() ? 10 : 200), 0, 0};
            case "tree": return new int[] {r.nextInt(2) == 0 ? between(r, 0, 39999) : somePlace(r), 0, 0, 0};
            case "agree": return new int[] {flyer, flyer2, r.nextInt(2), 0};
            case "fly": return new int[] {flyer, r.nextInt(3) == 0 ? 0 : 1, 0, 0};
            case "why": return new int[] {flyer, 0, 0, 0};
            case "cone": return new int[] {flyer, somePlace(r), 0, 0};
            case "turn": return new int[] {line, line2, r.nextInt(3) == 0 ? -1 : 1, 0};
            case "tangled": return new int[] {line, line2, 0, 0};
            case "unwind": return new int[] {between(r, 1, 1 + m.row.size() / 3), 0, 0, 0};
            case "cut": return new int[] {line, line2, stepOf(r, m, line2), 0};
            case "count": return new int[] {r.nextInt(8), 0, 0, 0};
            case "untie": return new int[] {kite, 0, 0, 0};
            default: return new int[] {line, 0, 0, 0};
        }
    }

    /** Taking much apart ends a run's interest: such calls are made seldom. */
    private static boolean isSkipped(Random r, String name) {
        boolean heavy = name.equals("cut") || name.equals("part") || name.equals("unwind") || name.equals("untie");
        return heavy && r.nextInt(5) != 0;
    }

    private static String nextName(Random r, int run, int call) {
        if (call < 25) {
            String[] start = {"kite", "line", "panel", "flyer", "kite", "line", "panel"};
            return start[call % start.length];
        }
        String[] group = GROUPS[r.nextInt(3) == 0 ? r.nextInt(GROUPS.length) : run % GROUPS.length];
        String name = group[r.nextInt(group.length)];
        return isSkipped(r, name) ? "count" : name;
    }

    private static void run(int run) {
        Random r = new Random(1000L + run);
        boolean tame = r.nextInt(4) != 0;
        BridleBook book = new BridleBook();
        Model model = new Model();
        for (int call = 0; call < CALLS; call++) {
            String name = nextName(r, run, call);
            int[] v = arguments(r, model, name, tame);
            if (r.nextInt(25) == 0) {
                v[r.nextInt(4)] = ODD[r.nextInt(ODD.length)];
            }
            long got = bookAnswer(book, name, v);
            long want = modelAnswer(model, name, v);
            note(name, want);
            if (got != want) {
                wrong++;
                System.out.println("run " + run + ", call " + call + ": " + name + java.util.Arrays.toString(v)
                    + " answered " + got + ", due is " + want);
                return;
            }
        }
    }

    private static void note(String name, long answer) {
        String kind = answer == VOID ? "VOID" : answer >= -3 && answer < 0 ? Long.toString(answer) : "value";
        seen.computeIfAbsent(name, n -> new TreeMap<>()).merge(kind, 1, Integer::sum);
    }

    public static void main(String[] args) {
        for (int run = 0; run < RUNS && wrong < 10; run++) {
            run(run);
        }
        if (args.length > 0) {
            seen.forEach((name, kinds) -> System.out.println(name + " " + kinds));
        }
        System.out.println(RUNS + " runs of " + CALLS + " calls, " + wrong + " wrong");
        if (wrong != 0) {
            System.exit(1);
        }
    }
}
