import java.util.Arrays;

/**
 * A kite field's book: kites, lines with trains of kites, winds, flyers and
 * the turns of lines about one another. README.md says how to use it.
 */
public final class BridleBook {
    public static final int BAD = -1, NOT = -2, FULL = -3, VOID = -2000000000;

    private static final int MAX_KITES = 20;
    private static final int MAX_PANELS = 6;
    private static final int MAX_LINES = 10;
    private static final int MAX_STEPS = 200;
    private static final int MAX_KNOTS = 10;
    private static final int MAX_FLYERS = 10;
    private static final int MAX_TREES = 20;
    private static final int MAX_TURNS = 200;
    private static final int ANGLES = 18;
    private static final int BANDS = 20;
    private static final int SIDE = 200;
    private static final int MAX_WIND = 99;
    private static final int MAX_ARM = 99;
    private static final int NO_LINE = -1;
    private static final int BY_BANDS = -1;

    private final Tables tables = new Tables();
    private final Kite[] kites = new Kite[MAX_KITES];
    private int kiteCount = 0;
    private final int[] winds = new int[BANDS];
    private final Line[] lines = new Line[MAX_LINES];
    private int lineCount = 0;
    private final Train train = new Train();
    private final Flyer[] flyers = new Flyer[MAX_FLYERS];
    private int flyerCount = 0;
    private final boolean[] agreed = new boolean[MAX_FLYERS * MAX_FLYERS];
    private final int[] trees = new int[MAX_TREES];
    private int treeCount = 0;
    private int direction = 0;
    private int shift = 200;
    private final Cone ownCone = new Cone();
    private final Cone otherCone = new Cone();
    private final TurnRow row = new TurnRow();

    public BridleBook() {
        Arrays.fill(winds, 10);
    }

    // ---- kites

    public int kite() {
        if (kiteCount >= MAX_KITES) {
            return FULL;
        }
        kites[kiteCount] = new Kite();
        kiteCount++;
        return kiteCount - 1;
    }

    public int panel(int kite, int area, int arm, int weight) {
        Kite k = kiteAt(kite);
        if (k == null || !within(area, 1, 99) || !isArm(arm) || !within(weight, 0, 99)) {
            return BAD;
        }
        return k.addPanel(area, arm, weight);
    }

    public int knot(int kite, int arm) {
        Kite k = kiteAt(kite);
        if (k == null || !isArm(arm)) {
            return VOID;
        }
        int was = k.knot;
        k.knot = arm;
        return was;
    }

    public int table(int angle, int what, int v) {
        if (!isAngle(angle) || !within(what, 0, 1)) {
            return VOID;
        }
        if (what == 0) {
            return within(v, -99, 99) ? tables.replaceLift(angle, v) : VOID;
        }
        return within(v, 0, 99) ? tables.replaceDrag(angle, v) : VOID;
    }

    public int force(int kite, int wind, int angle, int what) {
        Kite k = kiteAt(kite);
        if (k == null || !isWind(wind) || !isAngle(angle) || !within(what, 0, 2)) {
            return VOID;
        }
        if (what == 0) {
            return k.upAt(tables, wind, angle);
        }
        if (what == 1) {
            return k.backAt(tables, wind, angle);
        }
        return k.turningAt(tables, wind, angle, k.knot);
    }

    public int stands(int kite, int wind) {
        Kite k = kiteAt(kite);
        if (k == null || !isWind(wind)) {
            return BAD;
        }
        return k.standingAngle(tables, wind, k.knot);
    }

    public int steady(int kite, int wind) {
        Kite k = kiteAt(kite);
        if (k == null || !isWind(wind)) {
            return BAD;
        }
        int angle = k.standingAngle(tables, wind, k.knot);
        if (angle == NOT) {
            return NOT;
        }
        return k.isSteadyAt(tables, wind, angle, k.knot) ? 1 : 0;
    }

    public int pull(int kite, int wind, int what) {
        Kite k = kiteAt(kite);
        if (k == null || !isWind(wind) || !within(what, 0, 1)) {
            return VOID;
        }
        int angle = k.standingAngle(tables, wind, k.knot);
        return what == 0 ? k.upAt(tables, wind, angle) : k.backAt(tables, wind, angle);
    }

    public int trim(int kite, int wind, int a, int b) {
        Kite k = kiteAt(kite);
        if (k == null || !isWind(wind) || !isAngle(a) || !isAngle(b) || a > b) {
            return VOID;
        }
        for (int arm = -MAX_ARM; arm <= MAX_ARM; arm++) {
            int angle = k.standingAngle(tables, wind, arm);
            if (angle != NOT && within(angle, a, b) && k.isSteadyAt(tables, wind, angle, arm)) {
                return arm;
            }
        }
        return VOID;
    }

    // ---- winds, lines

    public int wind(int band, int v) {
        if (!within(band, 0, BANDS - 1) || !isWind(v)) {
            return BAD;
        }
        int was = winds[band];
        winds[band] = v;
        return was;
    }

    public int line(int steps, int strength, int weight) {
        if (!within(steps, 1, MAX_STEPS) || !within(strength, 1, 99999) || !within(weight, 0, 9)) {
            return BAD;
        }
        if (lineCount >= MAX_LINES) {
            return FULL;
        }
        lines[lineCount] = new Line(steps, strength, weight);
        lineCount++;
        return lineCount - 1;
    }

    public int tie(int kite, int line, int step) {
        Kite k = kiteAt(kite);
        Line l = lineAt(line);
        if (k == null || l == null || !within(step, 1, l.steps)) {
            return BAD;
        }
        if (k.line != NO_LINE) {
            return NOT;
        }
        k.line = line;
        k.step = step;
        return kitesOn(line);
    }

    public int untie(int kite) {
        Kite k = kiteAt(kite);
        if (k == null) {
            return BAD;
        }
        if (k.line == NO_LINE) {
            return NOT;
        }
        int was = k.line;
        k.line = NO_LINE;
        return was;
    }

    public int weaken(int line, int step) {
        Line l = lineAt(line);
        if (l == null || !within(step, 1, l.steps) || l.hasKnotAt(step)) {
            return BAD;
        }
        return l.addKnot(step);
    }

    public int ofLine(int line, int what) {
        Line l = lineAt(line);
        if (l == null) {
            return VOID;
        }
        switch (what) {
            case 0: return l.steps;
            case 1: return kitesOn(line);
            case 2: return l.knots;
            case 3: return liftsOf(line, l, BY_BANDS);
            case 4: return partingStep(line, l) == 0 ? 0 : 1;
            default: return VOID;
        }
    }

    public int step(int line, int step, int what) {
        Line l = lineAt(line);
        if (l == null || !within(step, 1, l.steps) || !within(what, 0, 5)) {
            return VOID;
        }
        if (what == 5) {
            return l.strengthAt(step);
        }
        loadTrain(line, l);
        switch (what) {
            case 0: return train.acrossAt(step);
            case 1: return train.upAt(step);
            case 2: return train.tensionAt(step);
            case 3: return train.placeAcross(step);
            default: return train.placeUp(step);
        }
    }

    public int part(int line) {
        Line l = lineAt(line);
        if (l == null) {
            return BAD;
        }
        int parting = partingStep(line, l);
        if (parting == 0) {
            return NOT;
        }
        sever(line, l, parting);
        return parting;
    }

    public int least(int line, int load) {
        Line l = lineAt(line);
        if (l == null || !within(load, 0, 99999)) {
            return BAD;
        }
        for (int v = 0; v <= MAX_WIND; v++) {
            if (liftsOf(line, l, v) >= load) {
                return v;
            }
        }
        return NOT;
    }

    // ---- the field

    public int flyer(int place, int line) {
        if (!isPlace(place) || lineAt(line) == null) {
            return BAD;
        }
        if (hasFlyer(line)) {
            return NOT;
        }
        if (flyerCount >= MAX_FLYERS) {
            return FULL;
        }
        flyers[flyerCount] = new Flyer(place / SIDE, place % SIDE, line);
        flyerCount++;
        return flyerCount - 1;
    }

    public int blow(int direction, int shift) {
        if (!within(direction, 0, 3) || !within(shift, 0, 200)) {
            return BAD;
        }
        int was = 10 * this.shift + this.direction;
        this.direction = direction;
        this.shift = shift;
        return was;
    }

    public int tree(int place) {
        if (!isPlace(place) || hasTreeAt(place)) {
            return BAD;
        }
        if (treeCount >= MAX_TREES) {
            return FULL;
        }
        trees[treeCount] = place;
        treeCount++;
        return treeCount;
    }

    public int agree(int a, int b, int is) {
        if (flyerAt(a) == null || flyerAt(b) == null || a == b || !within(is, 0, 1)) {
            return BAD;
        }
        int was = agreed[a * MAX_FLYERS + b] ? 1 : 0;
        agreed[a * MAX_FLYERS + b] = is == 1;
        agreed[b * MAX_FLYERS + a] = is == 1;
        return was;
    }

    public int fly(int flyer, int is) {
        Flyer f = flyerAt(flyer);
        if (f == null || !within(is, 0, 1)) {
            return BAD;
        }
        if (is == 1) {
            int reason = reasonAgainst(flyer, f);
            if (reason != 0) {
                return -10 - reason;
            }
        }
        f.flies = is == 1;
        return 1;
    }

    public int why(int flyer) {
        Flyer f = flyerAt(flyer);
        return f == null ? BAD : reasonAgainst(flyer, f);
    }

    public int cone(int flyer, int place) {
        Flyer f = flyerAt(flyer);
        if (f == null || !isPlace(place)) {
            return BAD;
        }
        spreadCone(ownCone, f);
        return ownCone.holds(place) ? 1 : 0;
    }

    // ---- turns

    public int turn(int a, int b, int way) {
        if (!areTwoLines(a, b) || (way != 1 && way != -1)) {
            return BAD;
        }
        return row.push(TurnRow.codeOf(a, b, way)) ? row.size : FULL;
    }

    public int tangled(int a, int b) {
        return areTwoLines(a, b) ? row.turnsOf(a, b) : BAD;
    }

    public int undo(int line) {
        return lineAt(line) == null ? BAD : row.undoneFor(line);
    }

    public int unwind(int n) {
        if (!within(n, 1, row.size)) {
            return BAD;
        }
        row.size -= n;
        return row.size;
    }

    public int cut(int a, int b, int step) {
        Line l = lineAt(b);
        if (l == null || !areTwoLines(a, b) || !within(step, 1, l.steps)) {
            return BAD;
        }
        if (row.turnsOf(a, b) == 0) {
            return NOT;
        }
        sever(b, l, step);
        row.dropLine(b);
        return row.size;
    }

    public int count(int what) {
        switch (what) {
            case 0: return kiteCount;
            case 1: return lineCount;
            case 2: return flyerCount;
            case 3: return countFlying();
            case 4: return treeCount;
            case 5: return row.size;
            case 6: return countTied();
            case 7: return countFree();
            default: return BAD;
        }
    }

    // ---- what is as the document says

    private static boolean within(int v, int low, int high) {
        return v >= low && v <= high;
    }

    private static boolean isArm(int arm) {
        return within(arm, -MAX_ARM, MAX_ARM);
    }

    private static boolean isAngle(int angle) {
        return within(angle, 0, ANGLES - 1);
    }

    private static boolean isWind(int v) {
        return within(v, 0, MAX_WIND);
    }

    private static boolean isPlace(int place) {
        return within(place, 0, SIDE * SIDE - 1);
    }

    private Kite kiteAt(int kite) {
        return within(kite, 0, kiteCount - 1) ? kites[kite] : null;
    }

    private Line lineAt(int line) {
        return within(line, 0, lineCount - 1) ? lines[line] : null;
    }

    private boolean areTwoLines(int a, int b) {
        return a != b && lineAt(a) != null && lineAt(b) != null;
    }

    private Flyer flyerAt(int flyer) {
        return within(flyer, 0, flyerCount - 1) ? flyers[flyer] : null;
    }

    // ---- lines and their kites

    private int kitesOn(int line) {
        int n = 0;
        for (int i = 0; i < kiteCount; i++) {
            Kite k = kiteAt(i);
            if (k != null && k.line == line) {
                n++;
            }
        }
        return n;
    }

    private int windAt(int height) {
        int band = Math.max(0, Math.min(height / 10, BANDS - 1));
        return winds[band];
    }

    /** LIFTS by one wind in all bands, or by the winds that were told (BY_BANDS). */
    private int liftsOf(int line, Line l, int evenWind) {
        int lifts = -l.steps * l.weight;
        for (int i = 0; i < kiteCount; i++) {
            Kite k = kiteAt(i);
            if (k != null && k.line == line) {
                int v = evenWind == BY_BANDS ? windAt(k.step) : evenWind;
                lifts += k.upAt(tables, v, k.standingAngle(tables, v, k.knot));
            }
        }
        return lifts;
    }

    private void loadTrain(int line, Line l) {
        train.clear();
        for (int i = 0; i < kiteCount; i++) {
            Kite k = kiteAt(i);
            if (k != null && k.line == line) {
                int v = windAt(k.step);
                int angle = k.standingAngle(tables, v, k.knot);
                train.hang(k.step, k.upAt(tables, v, angle), k.backAt(tables, v, angle));
            }
        }
        train.sumFromEnd(l.steps, l.weight);
    }

    /** The step at which a line parts as it is; 0: it holds. */
    private int partingStep(int line, Line l) {
        loadTrain(line, l);
        int parting = 0;
        int greatest = 0;
        for (int s = 1; s <= l.steps; s++) {
            int over = train.tensionAt(s) - l.strengthAt(s);
            if (over > greatest) {
                greatest = over;
                parting = s;
            }
        }
        return parting;
    }

    private void sever(int line, Line l, int step) {
        for (int i = 0; i < kiteCount; i++) {
            Kite k = kiteAt(i);
            if (k != null && k.line == line && k.step >= step) {
                k.line = NO_LINE;
            }
        }
        l.shortenTo(step - 1);
    }

    // ---- flyers

    private boolean hasFlyer(int line) {
        for (int i = 0; i < flyerCount; i++) {
            Flyer f = flyerAt(i);
            if (f != null && f.line == line) {
                return true;
            }
        }
        return false;
    }

    private boolean hasTreeAt(int place) {
        for (int i = 0; i < treeCount; i++) {
            if (trees[i] == place) {
                return true;
            }
        }
        return false;
    }

    private void spreadCone(Cone cone, Flyer f) {
        Line l = lineAt(f.line);
        int steps = l == null ? 0 : l.steps;
        cone.spread(f, direction, steps, Math.min(steps, shift));
    }

    /** The first reason why a flyer may not fly; 0: he may. */
    private int reasonAgainst(int flyer, Flyer f) {
        spreadCone(ownCone, f);
        for (int i = 0; i < treeCount; i++) {
            if (ownCone.holds(trees[i])) {
                return 1;
            }
        }
        for (int i = 0; i < flyerCount; i++) {
            if (i != flyer && isInTheWay(flyer, i)) {
                return 2;
            }
        }
        return 0;
    }

    /** Whether another one who flies, without agreement, meets the cone in ownCone. */
    private boolean isInTheWay(int flyer, int other) {
        Flyer f = flyerAt(other);
        if (f == null || !f.flies || agreed[flyer * MAX_FLYERS + other]) {
            return false;
        }
        spreadCone(otherCone, f);
        return ownCone.meets(otherCone);
    }

    // ---- counts

    private int countFlying() {
        int n = 0;
        for (int i = 0; i < flyerCount; i++) {
            Flyer f = flyerAt(i);
            if (f != null && f.flies) {
                n++;
            }
        }
        return n;
    }

    private int countTied() {
        int n = 0;
        for (int i = 0; i < kiteCount; i++) {
            Kite k = kiteAt(i);
            if (k != null && k.line != NO_LINE) {
                n++;
            }
        }
        return n;
    }

    private int countFree() {
        int n = 0;
        for (int i = 0; i < lineCount; i++) {
            if (row.undoneFor(i) == 0) {
                n++;
            }
        }
        return n;
    }

    /** Lift and drag by angles, the same for all kites. */
    private static final class Tables {
        final int[] lift = new int[ANGLES];
        final int[] drag = new int[ANGLES];

        Tables() {
            for (int a = 0; a < ANGLES; a++) {
                lift[a] = a <= 9 ? 9 * a : 162 - 9 * a;
                drag[a] = 2 * a;
            }
        }

        // A kite that tumbles has no angle (NOT): then nothing lifts or drags it.
        int liftAt(int angle) {
            return isAngle(angle) ? lift[angle] : 0;
        }

        int dragAt(int angle) {
            return isAngle(angle) ? drag[angle] : 0;
        }

        int replaceLift(int angle, int v) {
            int was = liftAt(angle);
            if (isAngle(angle)) {
                lift[angle] = v;
            }
            return was;
        }

        int replaceDrag(int angle, int v) {
            int was = dragAt(angle);
            if (isAngle(angle)) {
                drag[angle] = v;
            }
            return was;
        }
    }

    private static final class Kite {
        final int[] areas = new int[MAX_PANELS];
        final int[] arms = new int[MAX_PANELS];
        final int[] weights = new int[MAX_PANELS];
        int panels = 0;
        int knot = 0;
        int line = NO_LINE;
        int step = 0;

        int addPanel(int area, int arm, int weight) {
            if (panels >= MAX_PANELS) {
                return FULL;
            }
            areas[panels] = area;
            arms[panels] = arm;
            weights[panels] = weight;
            panels++;
            return panels - 1;
        }

        static int pressure(int area, int part, int wind) {
            return area * part * wind * wind / 1000;
        }

        int upAt(Tables tables, int wind, int angle) {
            int lift = tables.liftAt(angle);
            int sum = 0;
            for (int p = 0; p < panels; p++) {
                sum += pressure(areas[p], lift, wind) - weights[p];
            }
            return sum;
        }

        int backAt(Tables tables, int wind, int angle) {
            int drag = tables.dragAt(angle);
            int sum = 0;
            for (int p = 0; p < panels; p++) {
                sum += pressure(areas[p], drag, wind);
            }
            return sum;
        }

        // The knot is told, so that trim can try others than the kite's own.
        int turningAt(Tables tables, int wind, int angle, int knotArm) {
            int lift = tables.liftAt(angle);
            int sum = 0;
            for (int p = 0; p < panels; p++) {
                sum += (pressure(areas[p], lift, wind) - weights[p]) * (arms[p] - knotArm);
            }
            return sum;
        }

        /** The angle at which it stands; NOT: it tumbles. */
        int standingAngle(Tables tables, int wind, int knotArm) {
            if (panels == 0) {
                return NOT;
            }
            int here = turningAt(tables, wind, 0, knotArm);
            for (int a = 0; a < ANGLES - 1; a++) {
                int next = turningAt(tables, wind, a + 1, knotArm);
                if (here == 0 || (here > 0 && next < 0) || (here < 0 && next > 0)) {
                    return a;
                }
                here = next;
            }
            return here == 0 ? ANGLES - 1 : NOT;
        }

        boolean isSteadyAt(Tables tables, int wind, int angle, int knotArm) {
            int ahead = Math.max(angle - 1, 0);
            int next = Math.min(angle + 1, ANGLES - 1);
            return turningAt(tables, wind, ahead, knotArm) >= 0
                && turningAt(tables, wind, next, knotArm) <= 0;
        }
    }

    private static final class Line {
        int steps;
        final int strength;
        final int weight;
        final int[] knotSteps = new int[MAX_KNOTS];
        int knots = 0;

        Line(int steps, int strength, int weight) {
            this.steps = steps;
            this.strength = strength;
            this.weight = weight;
        }

        boolean hasKnotAt(int step) {
            for (int i = 0; i < knots; i++) {
                if (knotSteps[i] == step) {
                    return true;
                }
            }
            return false;
        }

        int addKnot(int step) {
            if (knots >= MAX_KNOTS) {
                return FULL;
            }
            knotSteps[knots] = step;
            knots++;
            return knots;
        }

        int strengthAt(int step) {
            return hasKnotAt(step) ? strength * 3 / 4 : strength;
        }

        void shortenTo(int left) {
            steps = left;
            int kept = 0;
            for (int i = 0; i < knots; i++) {
                if (knotSteps[i] <= left) {
                    knotSteps[kept] = knotSteps[i];
                    kept++;
                }
            }
            knots = kept;
        }
    }

    /** What a line bears at each step: one for all lines, loaded anew for each call. */
    private static final class Train {
        // One place more than there are steps, so that the last step has a next one (0).
        final int[] across = new int[MAX_STEPS + 2];
        final int[] up = new int[MAX_STEPS + 2];

        void clear() {
            Arrays.fill(across, 0);
            Arrays.fill(up, 0);
        }

        void hang(int step, int kiteUp, int kiteBack) {
            if (within(step, 1, MAX_STEPS)) {
                up[step] += kiteUp;
                across[step] += kiteBack;
            }
        }

        void sumFromEnd(int steps, int weight) {
            for (int s = Math.min(steps, MAX_STEPS); s >= 1; s--) {
                up[s] += up[s + 1] - weight;
                across[s] += across[s + 1];
            }
        }

        int acrossAt(int step) {
            return within(step, 1, MAX_STEPS) ? across[step] : 0;
        }

        int upAt(int step) {
            return within(step, 1, MAX_STEPS) ? up[step] : 0;
        }

        int tensionAt(int step) {
            long a = acrossAt(step);
            long u = upAt(step);
            return (int) rootFrom(Math.abs(a) + Math.abs(u), a * a + u * u);
        }

        /** The whole part of a square's root, by Newton's way down from a guess that isn't below it. */
        static long rootFrom(long guess, long square) {
            long root = guess;
            for (int round = 0; round < 64 && root > 0; round++) {
                long next = (root + square / root) / 2;
                if (next >= root) {
                    return root;
                }
                root = next;
            }
            return root;
        }

        static int hundredths(int force, int tension) {
            return tension == 0 ? 0 : (int) (100L * force / tension);
        }

        int placeAcross(int step) {
            int place = 0;
            for (int s = 1; s <= step; s++) {
                place += hundredths(acrossAt(s), tensionAt(s));
            }
            return place;
        }

        int placeUp(int step) {
            int place = 0;
            for (int s = 1; s <= step; s++) {
                place += hundredths(upAt(s), tensionAt(s));
            }
            return place;
        }
    }

    private static final class Flyer {
        final int x;
        final int y;
        final int line;
        boolean flies = false;

        Flyer(int x, int y, int line) {
            this.x = x;
            this.y = y;
            this.line = line;
        }
    }

    /**
     * A cone's bounds, not cut at the field's edge: each cone holds its flyer's
     * place in the field, so two cones that meet at all meet in the field too.
     */
    private static final class Cone {
        int lowX = 0;
        int highX = 0;
        int lowY = 0;
        int highY = 0;

        void spread(Flyer f, int direction, int ahead, int sidewards) {
            highX = f.x + reach(0, direction, ahead, sidewards);
            highY = f.y + reach(1, direction, ahead, sidewards);
            lowX = f.x - reach(2, direction, ahead, sidewards);
            lowY = f.y - reach(3, direction, ahead, sidewards);
        }

        static int reach(int toward, int direction, int ahead, int sidewards) {
            if (toward == direction) {
                return ahead;
            }
            return Math.abs(toward - direction) == 2 ? 0 : sidewards;
        }

        boolean holds(int place) {
            return within(place / SIDE, lowX, highX) && within(place % SIDE, lowY, highY);
        }

        boolean meets(Cone other) {
            return lowX <= other.highX && other.lowX <= highX
                && lowY <= other.highY && other.lowY <= highY;
        }
    }

    /**
     * The row of turns. A turn is kept as one number: the lesser line times 10
     * and the greater one, below 0 for a left turn; so -t undoes t, and none is 0.
     */
    private static final class TurnRow {
        final int[] turns = new int[MAX_TURNS];
        int size = 0;

        static int codeOf(int a, int b, int way) {
            return way * (10 * Math.min(a, b) + Math.max(a, b));
        }

        static boolean isOfLine(int turn, int line) {
            int pair = Math.abs(turn);
            return pair / 10 == line || pair % 10 == line;
        }

        // A turn that undoes the last one needs no place, so it goes into a full row too.
        boolean push(int turn) {
            if (size > 0 && turns[size - 1] == -turn) {
                size--;
                return true;
            }
            if (size >= MAX_TURNS) {
                return false;
            }
            turns[size] = turn;
            size++;
            return true;
        }

        int turnsOf(int a, int b) {
            int right = codeOf(a, b, 1);
            int n = 0;
            for (int i = 0; i < size; i++) {
                if (Math.abs(turns[i]) == right) {
                    n++;
                }
            }
            return n;
        }

        int undoneFor(int line) {
            for (int i = 0; i < size; i++) {
                if (isOfLine(turns[i], line)) {
                    return size - i;
                }
            }
            return 0;
        }

        // Pushed anew one by one, the rest undoes itself as it comes together.
        void dropLine(int line) {
            int before = size;
            size = 0;
            for (int i = 0; i < before; i++) {
                int turn = turns[i];
                if (!isOfLine(turn, line)) {
                    push(turn);
                }
            }
        }
    }
}
