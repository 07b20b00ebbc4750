/** One test or more for each promise of the document, with answers worked out by hand. */
public final class PromisesTest {
    private static final int BAD = -1, NOT = -2, FULL = -3, VOID = -2000000000;
    private static final int MIN = Integer.MIN_VALUE, MAX = Integer.MAX_VALUE;
    private static int promise = 0;
    private static int wrong = 0;
    private static int checks = 0;

    private static void due(String call, int got, int want) {
        checks++;
        if (got != want) {
            wrong++;
            System.out.println("promise " + promise + ": " + call + " answered " + got + ", due is " + want);
        }
    }

    public static void main(String[] args) {
        constants();
        kites();
        winds();
        lines();
        field();
        turns();
        System.out.println(checks + " checks, " + wrong + " wrong");
        if (wrong != 0) {
            System.exit(1);
        }
    }

    private static void constants() {
        promise = 0;
        due("BAD", BridleBook.BAD, BAD);
        due("NOT", BridleBook.NOT, NOT);
        due("FULL", BridleBook.FULL, FULL);
        due("VOID", BridleBook.VOID, VOID);
    }

    private static void kites() {
        newObject();
        kite();
        panel();
        knot();
        table();
        force();
        stands();
        standsAtLastAngle();
        steady();
        pull();
        trim();
    }

    private static void winds() {
        wind();
        windBands();
    }

    private static void lines() {
        line();
        tie();
        untie();
        weaken();
        ofLine();
        step();
        stepCurve();
        stepOfGreatForces();
        stepWithoutForce();
        part();
        partPicksLeastOfEqual();
        partTakesKitesAndKnots();
        least();
        leastIsTheFirst();
    }

    private static void field() {
        flyer();
        blow();
        tree();
        agree();
        fly();
        why();
        cone();
        conesMeetAtEdges();
    }

    private static void turns() {
        turn();
        turnFull();
        tangled();
        undo();
        unwind();
        cut();
        cutUndoesAgainAndAgain();
        count();
    }

    // ---- kites

    private static void newObject() {
        promise = 1;
        BridleBook b = new BridleBook();
        for (int what = 0; what <= 7; what++) {
            due("count(" + what + ")", b.count(what), 0);
        }
        due("stands(0, 10)", b.stands(0, 10), BAD);
        due("ofLine(0, 0)", b.ofLine(0, 0), VOID);
        due("why(0)", b.why(0), BAD);
        due("unwind(1)", b.unwind(1), BAD);
        due("blow(0, 200)", b.blow(0, 200), 2000);
        b.kite();
        due("another object's count(0)", new BridleBook().count(0), 0);
    }

    private static void kite() {
        promise = 2;
        BridleBook b = new BridleBook();
        for (int i = 0; i < 20; i++) {
            due("kite()", b.kite(), i);
        }
        due("kite() 21", b.kite(), FULL);
        due("count(0)", b.count(0), 20);
        due("panel(19..)", b.panel(19, 1, 0, 0), 0);
        due("panel(20..)", b.panel(20, 1, 0, 0), BAD);
    }

    private static void panel() {
        promise = 3;
        BridleBook b = new BridleBook();
        b.kite();
        due("no kite", b.panel(1, 1, 0, 0), BAD);
        due("kite -1", b.panel(-1, 1, 0, 0), BAD);
        due("kite MIN", b.panel(MIN, 1, 0, 0), BAD);
        due("kite MAX", b.panel(MAX, 1, 0, 0), BAD);
        due("area 0", b.panel(0, 0, 0, 0), BAD);
        due("area 100", b.panel(0, 100, 0, 0), BAD);
        due("arm -100", b.panel(0, 1, -100, 0), BAD);
        due("arm 100", b.panel(0, 1, 100, 0), BAD);
        due("weight -1", b.panel(0, 1, 0, -1), BAD);
        due("weight 100", b.panel(0, 1, 0, 100), BAD);
        due("first", b.panel(0, 1, -99, 0), 0);
        due("second", b.panel(0, 99, 99, 99), 1);
        for (int i = 2; i < 6; i++) {
            due("more", b.panel(0, 5, 5, 5), i);
        }
        due("seventh", b.panel(0, 5, 5, 5), FULL);
        due("BAD ahead of FULL", b.panel(0, 0, 5, 5), BAD);
        due("UP: weights of six", b.force(0, 0, 0, 0), -(99 + 4 * 5));
    }

    private static void knot() {
        promise = 4;
        BridleBook b = new BridleBook();
        due("no kite", b.knot(0, 0), VOID);
        b.kite();
        due("arm -100", b.knot(0, -100), VOID);
        due("arm 100", b.knot(0, 100), VOID);
        due("kite -1", b.knot(-1, 0), VOID);
        due("first", b.knot(0, -99), 0);
        due("then", b.knot(0, 99), -99);
        due("then", b.knot(0, 7), 99);
        b.panel(0, 10, 9, 3);
        due("TURN by the knot", b.force(0, 0, 0, 2), -3 * (9 - 7));
    }

    private static void table() {
        promise = 5;
        BridleBook b = new BridleBook();
        for (int a = 0; a < 18; a++) {
            due("first LIFT " + a, b.table(a, 0, -a), a <= 9 ? 9 * a : 162 - 9 * a);
            due("first DRAG " + a, b.table(a, 1, 99 - a), 2 * a);
        }
        for (int a = 0; a < 18; a++) {
            due("LIFT told " + a, b.table(a, 0, 0), -a);
            due("DRAG told " + a, b.table(a, 1, 0), 99 - a);
        }
        due("angle -1", b.table(-1, 0, 0), VOID);
        due("angle 18", b.table(18, 0, 0), VOID);
        due("what -1", b.table(0, -1, 0), VOID);
        due("what 2", b.table(0, 2, 0), VOID);
        due("LIFT -100", b.table(0, 0, -100), VOID);
        due("LIFT 100", b.table(0, 0, 100), VOID);
        due("DRAG -1", b.table(0, 1, -1), VOID);
        due("DRAG 100", b.table(0, 1, 100), VOID);
        due("LIFT -99", b.table(0, 0, -99), 0);
        due("LIFT 99", b.table(0, 0, 99), -99);
        due("LIFT was 99", b.table(0, 0, 0), 99);
        due("DRAG 99", b.table(0, 1, 99), 0);
        due("DRAG was 99", b.table(0, 1, 0), 99);
    }

    private static void force() {
        promise = 6;
        BridleBook b = new BridleBook();
        b.kite();
        due("without panels UP", b.force(0, 50, 9, 0), 0);
        due("without panels BACK", b.force(0, 50, 9, 1), 0);
        due("without panels TURN", b.force(0, 50, 9, 2), 0);
        b.panel(0, 7, 10, 2);
        b.panel(0, 3, -4, 1);
        // LIFT of 4 is 36: 7 36 11 11 / 1000 = 30.492, 3 36 11 11 / 1000 = 13.068
        due("UP", b.force(0, 11, 4, 0), 30 + 13 - 3);
        // DRAG of 4 is 8: 6.776 and 2.904, each cut
        due("BACK", b.force(0, 11, 4, 1), 8);
        due("TURN", b.force(0, 11, 4, 2), 28 * 10 + 12 * -4);
        b.knot(0, 6);
        due("TURN by knot", b.force(0, 11, 4, 2), 28 * 4 + 12 * -10);
        b.table(4, 0, -36);
        due("cut toward 0", b.force(0, 11, 4, 0), -30 - 13 - 3);
        due("TURN below 0", b.force(0, 11, 4, 2), -32 * 4 + -14 * -10);
        due("wind 0", b.force(0, 0, 4, 0), -3);
        due("wind 99", b.force(0, 99, 17, 1), 7 * 34 * 9801 / 1000 + 3 * 34 * 9801 / 1000);
        due("no kite", b.force(1, 0, 0, 0), VOID);
        due("wind -1", b.force(0, -1, 0, 0), VOID);
        due("wind 100", b.force(0, 100, 0, 0), VOID);
        due("angle -1", b.force(0, 0, -1, 0), VOID);
        due("angle 18", b.force(0, 0, 18, 0), VOID);
        due("what -1", b.force(0, 0, 0, -1), VOID);
        due("what 3", b.force(0, 0, 0, 3), VOID);
    }

    /** A kite of one panel (area 10, arm 1, no weight) by wind 10: TURN at an angle is its LIFT. */
    private static BridleBook plainKite(int[] lifts) {
        BridleBook b = new BridleBook();
        b.kite();
        b.panel(0, 10, 1, 0);
        for (int a = 0; a < 18; a++) {
            b.table(a, 0, a < lifts.length ? lifts[a] : lifts[lifts.length - 1]);
        }
        return b;
    }

    private static void stands() {
        promise = 7;
        BridleBook e = new BridleBook();
        due("no kite", e.stands(0, 0), BAD);
        e.kite();
        due("without panels", e.stands(0, 50), NOT);
        due("wind -1", e.stands(0, -1), BAD);
        due("wind 100", e.stands(0, 100), BAD);
        due("kite -1", e.stands(-1, 1), BAD);
        due("always above", plainKite(new int[] {5}).stands(0, 10), NOT);
        due("always below", plainKite(new int[] {-5}).stands(0, 10), NOT);
        due("always 0", plainKite(new int[] {0}).stands(0, 10), 0);
        due("0 at 3", plainKite(new int[] {5, 5, 5, 0, 5}).stands(0, 10), 3);
        due("above, then below", plainKite(new int[] {5, 5, -5}).stands(0, 10), 1);
        due("below, then above", plainKite(new int[] {-5, -5, -5, 5}).stands(0, 10), 2);
        due("first of several", plainKite(new int[] {-5, 5, -5, 0}).stands(0, 10), 0);
        due("wind 0 makes 0", plainKite(new int[] {5}).stands(0, 0), 0);
    }

    private static void standsAtLastAngle() {
        promise = 7;
        int[] lifts = new int[18];
        java.util.Arrays.fill(lifts, 5);
        lifts[17] = 0;
        due("0 at 17", plainKite(lifts).stands(0, 10), 17);
        lifts[17] = -1;
        due("turns from 16 to 17", plainKite(lifts).stands(0, 10), 16);
        BridleBook b = new BridleBook();
        b.kite();
        b.panel(0, 1, 1, 9);
        for (int a = 0; a < 18; a++) {
            b.table(a, 0, 99);
        }
        // 99 wind 99 is 970 - 9 above 0 at all angles: nothing comes behind 17
        due("nothing behind 17", b.stands(0, 99), NOT);
        due("by light wind", b.stands(0, 9), NOT);
    }

    private static void steady() {
        promise = 8;
        due("no kite", new BridleBook().steady(0, 0), BAD);
        due("tumbles", plainKite(new int[] {5}).steady(0, 10), NOT);
        due("wind -1", plainKite(new int[] {5}).steady(0, -1), BAD);
        due("wind 100", plainKite(new int[] {5}).steady(0, 100), BAD);
        due("above to below", plainKite(new int[] {5, 5, -5}).steady(0, 10), 1);
        due("below to above", plainKite(new int[] {-5, -5, 5}).steady(0, 10), 0);
        due("through 0 down", plainKite(new int[] {5, 0, -5}).steady(0, 10), 1);
        due("through 0 up", plainKite(new int[] {-5, 0, 5}).steady(0, 10), 0);
        due("touching 0 from above", plainKite(new int[] {5, 0, 5}).steady(0, 10), 0);
        due("touching 0 from below", plainKite(new int[] {-5, 0, -5}).steady(0, 10), 0);
        due("0 and 0", plainKite(new int[] {5, 0, 0}).steady(0, 10), 1);
        due("at 0: above, then below", plainKite(new int[] {5, -5}).steady(0, 10), 1);
        due("at 0: below, then above", plainKite(new int[] {-5, 5}).steady(0, 10), 0);
        due("at 0: 0, then below", plainKite(new int[] {0, -5}).steady(0, 10), 1);
        due("at 0: 0, then above", plainKite(new int[] {0, 5}).steady(0, 10), 0);
        int[] lifts = new int[18];
        java.util.Arrays.fill(lifts, 5);
        lifts[17] = 0;
        due("at 17 from above", plainKite(lifts).steady(0, 10), 1);
        java.util.Arrays.fill(lifts, -5);
        lifts[17] = 0;
        due("at 17 from below", plainKite(lifts).steady(0, 10), 0);
        // ahead (1) is above 0, but a later turn counts only at the next angle
        due("a wide fall", plainKite(new int[] {9, 9, -9, 9}).steady(0, 10), 1);
    }

    private static void pull() {
        promise = 9;
        BridleBook b = plainKite(new int[] {9, 5, -5});
        b.panel(0, 20, 1, 0);
        // it stands at 1: 10 5 + 20 5 times 100 / 1000 = 5 + 10; DRAG 2: 2 + 4
        due("UP", b.pull(0, 10, 0), 15);
        due("BACK", b.pull(0, 10, 1), 6);
        due("what -1", b.pull(0, 10, -1), VOID);
        due("what 2", b.pull(0, 10, 2), VOID);
        due("wind -1", b.pull(0, -1, 0), VOID);
        due("wind 100", b.pull(0, 100, 0), VOID);
        due("no kite", b.pull(1, 10, 0), VOID);
        BridleBook t = plainKite(new int[] {50});
        t.panel(0, 1, 2, 7);
        t.panel(0, 1, 2, 4);
        t.knot(0, -99);
        due("it tumbles", t.stands(0, 90), NOT);
        due("tumbling UP", t.pull(0, 90, 0), -11);
        due("tumbling BACK", t.pull(0, 90, 1), 0);
        t.kite();
        due("no panels UP", t.pull(1, 90, 0), 0);
        due("no panels BACK", t.pull(1, 90, 1), 0);
    }

    private static void trim() {
        promise = 10;
        BridleBook b = plainKite(new int[] {5, 5, -5});
        // with the knot below arm 1 it goes from above to below at 1
        due("first arm", b.trim(0, 10, 1, 1), -99);
        due("0 .. 17", b.trim(0, 10, 0, 17), -99);
        // only with the knot at the arm does TURN vanish at 0
        due("at 0", b.trim(0, 10, 0, 0), 1);
        due("at none", b.trim(0, 10, 2, 17), VOID);
        due("the knot stays", b.knot(0, 0), 0);
        due("a above b", b.trim(0, 10, 1, 0), VOID);
        due("a -1", b.trim(0, 10, -1, 17), VOID);
        due("b 18", b.trim(0, 10, 0, 18), VOID);
        due("wind -1", b.trim(0, -1, 0, 17), VOID);
        due("wind 100", b.trim(0, 100, 0, 17), VOID);
        due("no kite", b.trim(1, 10, 0, 17), VOID);
        b.kite();
        due("without panels", b.trim(1, 10, 0, 17), VOID);
        BridleBook f = new BridleBook();
        f.kite();
        f.panel(0, 10, 99, 0);
        for (int a = 0; a < 18; a++) {
            f.table(a, 0, a < 5 ? -5 : 5);
        }
        // LIFT goes up: steady from above to below needs the knot above the arm, and there is none;
        // at the arm itself (99) TURN is 0 throughout
        due("last arm", f.trim(0, 10, 0, 17), 99);
        due("last arm, at 4", f.trim(0, 10, 4, 4), VOID);
        BridleBook g = new BridleBook();
        g.kite();
        g.panel(0, 10, 40, 0);
        for (int a = 0; a < 18; a++) {
            g.table(a, 0, a < 5 ? -5 : 5);
        }
        due("above the arm, at 4", g.trim(0, 10, 4, 4), 41);
        due("above the arm, at 5", g.trim(0, 10, 5, 17), VOID);
    }

    // ---- winds, lines

    private static void wind() {
        promise = 11;
        BridleBook b = new BridleBook();
        for (int h = 0; h < 20; h++) {
            due("first", b.wind(h, h), 10);
        }
        for (int h = 0; h < 20; h++) {
            due("told", b.wind(h, 99), h);
        }
        due("band -1", b.wind(-1, 0), BAD);
        due("band 20", b.wind(20, 0), BAD);
        due("v -1", b.wind(0, -1), BAD);
        due("v 100", b.wind(0, 100), BAD);
        due("99 stays", b.wind(0, 0), 99);
    }

    /** A kite whose PULL is one UP for each hundred of v v, tied at a step. */
    private static int upByHeight(int step) {
        BridleBook b = plainKite(new int[] {10, -10});
        for (int h = 0; h < 20; h++) {
            b.wind(h, 10 + h);
        }
        b.line(200, 99999, 0);
        b.tie(0, 0, step);
        return b.ofLine(0, 3);
    }

    private static void windBands() {
        promise = 11;
        due("step 1", upByHeight(1), 10);
        due("step 9", upByHeight(9), 10);
        due("step 10", upByHeight(10), 100 * 121 / 1000);
        due("step 19", upByHeight(19), 100 * 121 / 1000);
        due("step 199", upByHeight(199), 100 * 29 * 29 / 1000);
        due("step 200", upByHeight(200), 100 * 29 * 29 / 1000);
    }

    private static void line() {
        promise = 12;
        BridleBook b = new BridleBook();
        due("steps 0", b.line(0, 1, 0), BAD);
        due("steps 201", b.line(201, 1, 0), BAD);
        due("strength 0", b.line(1, 0, 0), BAD);
        due("strength 100000", b.line(1, 100000, 0), BAD);
        due("weight -1", b.line(1, 1, -1), BAD);
        due("weight 10", b.line(1, 1, 10), BAD);
        due("first", b.line(1, 1, 0), 0);
        due("second", b.line(200, 99999, 9), 1);
        for (int i = 2; i < 10; i++) {
            due("more", b.line(5, 5, 5), i);
        }
        due("eleventh", b.line(5, 5, 5), FULL);
        due("BAD ahead of FULL", b.line(0, 5, 5), BAD);
        due("STEPS", b.ofLine(1, 0), 200);
    }

    private static void tie() {
        promise = 13;
        BridleBook b = new BridleBook();
        b.kite();
        b.kite();
        b.kite();
        b.line(10, 100, 0);
        b.line(10, 100, 0);
        due("no kite", b.tie(3, 0, 1), BAD);
        due("kite -1", b.tie(-1, 0, 1), BAD);
        due("no line", b.tie(0, 2, 1), BAD);
        due("line -1", b.tie(0, -1, 1), BAD);
        due("step 0", b.tie(0, 0, 0), BAD);
        due("step 11", b.tie(0, 0, 11), BAD);
        due("first", b.tie(0, 0, 10), 1);
        due("at the same step", b.tie(1, 0, 10), 2);
        due("tied", b.tie(0, 0, 1), NOT);
        due("tied elsewhere", b.tie(0, 1, 1), NOT);
        due("BAD ahead of NOT", b.tie(0, 1, 11), BAD);
        due("other line", b.tie(2, 1, 1), 1);
    }

    private static void untie() {
        promise = 14;
        BridleBook b = new BridleBook();
        b.kite();
        b.line(5, 5, 0);
        b.line(5, 5, 0);
        due("no kite", b.untie(1), BAD);
        due("kite -1", b.untie(-1), BAD);
        due("not tied", b.untie(0), NOT);
        b.tie(0, 1, 3);
        due("the line", b.untie(0), 1);
        due("untied", b.untie(0), NOT);
        due("KITES", b.ofLine(1, 1), 0);
        due("tied anew", b.tie(0, 0, 5), 1);
        due("line 0", b.untie(0), 0);
    }

    private static void weaken() {
        promise = 15;
        BridleBook b = new BridleBook();
        due("no line", b.weaken(0, 1), BAD);
        b.line(12, 99, 0);
        b.line(12, 99, 0);
        due("step 0", b.weaken(0, 0), BAD);
        due("step 13", b.weaken(0, 13), BAD);
        due("line -1", b.weaken(-1, 1), BAD);
        for (int s = 1; s <= 10; s++) {
            due("knot", b.weaken(0, 13 - s), s);
        }
        due("there is one, though full", b.weaken(0, 12), BAD);
        due("eleventh", b.weaken(0, 1), FULL);
        due("other line", b.weaken(1, 1), 1);
        due("3 / 4 of 99", b.step(0, 12, 5), 74);
        due("no knot", b.step(0, 2, 5), 99);
    }

    private static void ofLine() {
        promise = 16;
        BridleBook b = plainKite(new int[] {50, -50});
        due("no line", b.ofLine(0, 0), VOID);
        b.line(10, 42, 1);
        due("line -1", b.ofLine(-1, 0), VOID);
        due("what -1", b.ofLine(0, -1), VOID);
        due("what 5", b.ofLine(0, 5), VOID);
        due("STEPS", b.ofLine(0, 0), 10);
        due("KITES", b.ofLine(0, 1), 0);
        due("KNOTS", b.ofLine(0, 2), 0);
        due("LIFTS alone", b.ofLine(0, 3), -10);
        due("holds alone", b.ofLine(0, 4), 0);
        b.tie(0, 0, 5);
        b.weaken(0, 9);
        due("KITES", b.ofLine(0, 1), 1);
        due("KNOTS", b.ofLine(0, 2), 1);
        due("LIFTS", b.ofLine(0, 3), 50 - 10);
        // UP of step 5 is 50 - 6 = 44
        due("PARTS", b.ofLine(0, 4), 1);
        due("it only tells", b.ofLine(0, 0), 10);
        b.untie(0);
        b.tie(0, 0, 3);
        // UP of step 3 is 50 - 8 = 42: not above 42
        due("holds by a hair", b.ofLine(0, 4), 0);
    }

    private static void step() {
        promise = 17;
        BridleBook b = plainKite(new int[] {50, -50});
        b.table(0, 1, 30);
        b.kite();
        b.panel(1, 20, 1, 0);
        due("no line", b.step(0, 1, 0), VOID);
        b.line(8, 77, 2);
        b.tie(0, 0, 6);
        b.tie(1, 0, 3);
        due("ACROSS 8", b.step(0, 8, 0), 0);
        due("ACROSS 6", b.step(0, 6, 0), 30);
        due("ACROSS 4", b.step(0, 4, 0), 30);
        due("ACROSS 3", b.step(0, 3, 0), 90);
        due("ACROSS 1", b.step(0, 1, 0), 90);
        due("UP 8", b.step(0, 8, 1), -2);
        due("UP 7", b.step(0, 7, 1), -4);
        due("UP 6", b.step(0, 6, 1), 50 - 6);
        due("UP 4", b.step(0, 4, 1), 50 - 10);
        due("UP 3", b.step(0, 3, 1), 150 - 12);
        due("UP 1", b.step(0, 1, 1), 150 - 16);
        due("T 8", b.step(0, 8, 2), 2);
        due("T 4: 3, 4, 5", b.step(0, 4, 2), 50);
        due("T 6: root of 2836", b.step(0, 6, 2), 53);
        due("STRENGTH", b.step(0, 4, 5), 77);
        b.weaken(0, 4);
        due("STRENGTH at a knot", b.step(0, 4, 5), 57);
        due("step 0", b.step(0, 0, 0), VOID);
        due("step 9", b.step(0, 9, 0), VOID);
        due("what -1", b.step(0, 1, -1), VOID);
        due("what 6", b.step(0, 1, 6), VOID);
        due("line -1", b.step(-1, 1, 0), VOID);
    }

    private static void stepCurve() {
        promise = 17;
        BridleBook b = plainKite(new int[] {40, -50});
        b.table(0, 1, 30);
        b.line(3, 1000, 0);
        b.tie(0, 0, 2);
        due("across 1", b.step(0, 1, 3), 60);
        due("height 1", b.step(0, 1, 4), 80);
        due("across 2", b.step(0, 2, 3), 120);
        due("height 2", b.step(0, 2, 4), 160);
        due("T 0: not at all, across", b.step(0, 3, 3), 120);
        due("T 0: not at all, up", b.step(0, 3, 4), 160);
        BridleBook heavy = plainKite(new int[] {1, -50});
        heavy.table(0, 1, 2);
        heavy.line(2, 1000, 2);
        heavy.tie(0, 0, 2);
        // step 2: 2 across, -1 up, T 2: 100 across, -50 up; step 1: 2 across, -3 up, T 3: 66, -100
        due("cut across", heavy.step(0, 1, 3), 66);
        due("below the ground", heavy.step(0, 1, 4), -100);
        due("across 2", heavy.step(0, 2, 3), 166);
        due("below the ground 2", heavy.step(0, 2, 4), -150);
    }

    private static void stepOfGreatForces() {
        promise = 17;
        BridleBook b = new BridleBook();
        b.table(0, 0, 99);
        b.table(0, 1, 99);
        b.table(1, 0, -99);
        b.wind(0, 99);
        b.line(1, 99999, 9);
        for (int k = 0; k < 20; k++) {
            b.kite();
            for (int p = 0; p < 6; p++) {
                b.panel(k, 99, 99, 0);
            }
            b.tie(k, 0, 1);
        }
        int each = 99 * 99 * 9801 / 1000;
        due("ACROSS", b.step(0, 1, 0), 120 * each);
        due("UP", b.step(0, 1, 1), 120 * each - 9);
        long a = 120L * each;
        long u = 120L * each - 9;
        int t = java.math.BigInteger.valueOf(a * a + u * u).sqrt().intValueExact();
        due("T", b.step(0, 1, 2), t);
        due("across", b.step(0, 1, 3), 70);
        due("height", b.step(0, 1, 4), 70);
        due("parts", b.part(0), 1);
    }

    private static void stepWithoutForce() {
        promise = 17;
        BridleBook b = new BridleBook();
        b.line(200, 1, 0);
        for (int what = 0; what <= 4; what++) {
            due("no force, what " + what, b.step(0, 200, what), 0);
        }
        b.line(200, 1, 9);
        due("its own weight", b.step(1, 1, 1), -1800);
        due("it lies under", b.step(1, 200, 4), -20000);
    }

    private static void part() {
        promise = 18;
        BridleBook b = plainKite(new int[] {50, -50});
        due("no line", b.part(0), BAD);
        b.line(10, 40, 1);
        due("line -1", b.part(-1), BAD);
        due("holds", b.part(0), NOT);
        b.tie(0, 0, 10);
        // UP of step s is 50 - (11 - s) = 39 + s: the greatest at 10
        due("greatest", b.part(0), 10);
        due("STEPS", b.ofLine(0, 0), 9);
        due("KITES", b.ofLine(0, 1), 0);
        due("untied", b.untie(0), NOT);
        due("holds then", b.part(0), NOT);
    }

    private static void partPicksLeastOfEqual() {
        promise = 18;
        BridleBook b = plainKite(new int[] {50, -50});
        b.line(10, 48, 0);
        b.tie(0, 0, 8);
        due("the least of equals", b.part(0), 1);
        due("no STEPS", b.ofLine(0, 0), 0);
        due("LIFTS without steps", b.ofLine(0, 3), 0);
        due("no PARTS", b.ofLine(0, 4), 0);
        due("it holds", b.part(0), NOT);
        due("no step 0", b.step(0, 0, 0), VOID);
        due("no tie", b.tie(0, 0, 1), BAD);
        BridleBook k = plainKite(new int[] {50, -50});
        k.line(10, 50, 0);
        k.tie(0, 0, 8);
        k.weaken(0, 9);
        k.weaken(0, 7);
        k.weaken(0, 4);
        // 3 / 4 of 50 is 37: at 4 and 7 it is over by 13, at 9 there is no force
        due("at the knot", k.part(0), 4);
        due("STEPS", k.ofLine(0, 0), 3);
        due("KNOTS", k.ofLine(0, 2), 0);
    }

    private static void partTakesKitesAndKnots() {
        promise = 18;
        BridleBook b = plainKite(new int[] {50, -50});
        for (int k = 1; k <= 3; k++) {
            b.kite();
            b.panel(k, 1, 1, 1);
        }
        b.line(10, 40, 0);
        b.line(10, 40, 0);
        b.tie(0, 0, 6);
        b.tie(1, 0, 5);
        b.tie(2, 0, 4);
        b.tie(3, 1, 9);
        b.weaken(0, 4);
        b.weaken(0, 5);
        b.weaken(0, 6);
        b.weaken(0, 2);
        // kites 1, 2 pull -1 + 5 = 4 UP each: UP is 50 at 6, 54 at 5, 58 at 4 and below
        due("at 2", b.step(0, 2, 1), 58);
        b.untie(2);
        b.tie(2, 0, 1);
        // now 54 at 2, 4 and 5, all weakened: the least is 2
        due("parts at 2", b.part(0), 2);
        due("KITES: one at 1", b.ofLine(0, 1), 1);
        due("KNOTS", b.ofLine(0, 2), 0);
        due("tied", b.count(6), 2);
        due("kite 2 is on", b.untie(2), 0);
        due("kite 3 is on", b.untie(3), 1);
        due("kite 1 is off", b.untie(1), NOT);
    }

    private static void least() {
        promise = 19;
        BridleBook b = plainKite(new int[] {50, -50});
        due("no line", b.least(0, 0), BAD);
        b.line(10, 1, 1);
        b.tie(0, 0, 10);
        due("load -1", b.least(0, -1), BAD);
        due("load 100000", b.least(0, 100000), BAD);
        due("line -1", b.least(-1, 0), BAD);
        // UP is v v / 2 - 10: 0 at v v = 20, so v = 5 (12 - 10)
        due("load 0", b.least(0, 0), 5);
        due("load 2", b.least(0, 2), 5);
        due("load 3", b.least(0, 3), 6);
        due("load of v 99", b.least(0, 4900 - 10), 99);
        due("one more", b.least(0, 4901 - 10), NOT);
        due("99999", b.least(0, 99999), NOT);
        due("winds stay", b.wind(19, 10), 10);
        b.wind(1, 0);
        due("winds do not matter", b.least(0, 2), 5);
        BridleBook n = new BridleBook();
        n.line(1, 1, 9);
        due("nothing lifts", n.least(0, 0), NOT);
        n.line(1, 1, 0);
        due("load 0 without weight", n.least(1, 0), 0);
        due("load 1 without kites", n.least(1, 1), NOT);
        n.part(0);
        due("a line of no steps, load 0", n.least(0, 0), 0);
        due("a line of no steps, load 1", n.least(0, 1), NOT);
    }

    private static void leastIsTheFirst() {
        promise = 19;
        BridleBook b = new BridleBook();
        b.kite();
        b.panel(0, 50, 10, 9);
        b.panel(0, 10, -10, 1);
        b.line(1, 1, 0);
        b.tie(0, 0, 1);
        int first = NOT;
        for (int v = 99; v >= 0; v--) {
            if (b.pull(0, v, 0) >= 40) {
                first = v;
            }
        }
        due("the least of all", b.least(0, 40), first);
    }

    // ---- the field

    private static void flyer() {
        promise = 20;
        BridleBook b = new BridleBook();
        due("no line", b.flyer(0, 0), BAD);
        for (int i = 0; i < 10; i++) {
            b.line(5, 5, 0);
        }
        due("place -1", b.flyer(-1, 0), BAD);
        due("place 40000", b.flyer(40000, 0), BAD);
        due("line -1", b.flyer(0, -1), BAD);
        due("line 10", b.flyer(0, 10), BAD);
        due("first", b.flyer(39999, 9), 0);
        due("line 9 has one", b.flyer(0, 9), NOT);
        due("BAD ahead of NOT", b.flyer(-1, 9), BAD);
        for (int i = 0; i < 9; i++) {
            due("more", b.flyer(0, i), i + 1);
        }
        due("all lines have one", b.flyer(0, 0), NOT);
        due("no flyer 10", b.why(10), BAD);
        due("no flyer 11", b.cone(11, 0), BAD);
        due("no agreement with 10", b.agree(0, 10, 1), BAD);
        due("count", b.count(2), 10);
    }

    private static void blow() {
        promise = 21;
        BridleBook b = new BridleBook();
        due("direction -1", b.blow(-1, 0), BAD);
        due("direction 4", b.blow(4, 0), BAD);
        due("shift -1", b.blow(0, -1), BAD);
        due("shift 201", b.blow(0, 201), BAD);
        due("first", b.blow(3, 0), 2000);
        due("then", b.blow(1, 200), 3);
        due("then", b.blow(2, 17), 2001);
        due("then", b.blow(0, 0), 172);
        b.line(5, 5, 0);
        b.flyer(0, 0);
        b.tree(200);
        b.tree(1);
        b.blow(2, 0);
        due("flies", b.fly(0, 1), 1);
        b.blow(0, 0);
        due("may not", b.why(0), 1);
        due("flies on", b.count(3), 1);
    }

    private static void tree() {
        promise = 22;
        BridleBook b = new BridleBook();
        due("place -1", b.tree(-1), BAD);
        due("place 40000", b.tree(40000), BAD);
        for (int i = 0; i < 20; i++) {
            due("tree", b.tree(39999 - i), i + 1);
        }
        due("there is one, though full", b.tree(39999), BAD);
        due("full", b.tree(0), FULL);
        due("BAD ahead of FULL", b.tree(-1), BAD);
        due("count", b.count(4), 20);
    }

    private static void agree() {
        promise = 23;
        BridleBook b = new BridleBook();
        b.line(5, 5, 0);
        b.line(5, 5, 0);
        b.line(5, 5, 0);
        b.flyer(0, 0);
        b.flyer(0, 1);
        b.flyer(0, 2);
        due("one and the same", b.agree(1, 1, 1), BAD);
        due("no a", b.agree(3, 0, 1), BAD);
        due("no b", b.agree(0, 3, 1), BAD);
        due("a -1", b.agree(-1, 0, 1), BAD);
        due("b -1", b.agree(0, -1, 1), BAD);
        due("is -1", b.agree(0, 1, -1), BAD);
        due("is 2", b.agree(0, 1, 2), BAD);
        due("first", b.agree(0, 1, 1), 0);
        due("the other way about", b.agree(1, 0, 1), 1);
        due("other two", b.agree(0, 2, 0), 0);
        due("not any more", b.agree(1, 0, 0), 1);
        due("was not", b.agree(0, 1, 0), 0);
    }

    private static void fly() {
        promise = 24;
        BridleBook b = new BridleBook();
        due("no flyer", b.fly(0, 1), BAD);
        b.line(5, 5, 0);
        b.line(5, 5, 0);
        b.flyer(200 * 50 + 50, 0);
        b.flyer(200 * 52 + 52, 1);
        due("flyer -1", b.fly(-1, 1), BAD);
        due("is -1", b.fly(0, -1), BAD);
        due("is 2", b.fly(0, 2), BAD);
        due("not, at first", b.count(3), 0);
        due("not", b.fly(0, 0), 1);
        due("flies", b.fly(0, 1), 1);
        due("flies still", b.fly(0, 1), 1);
        due("count", b.count(3), 1);
        due("meets", b.fly(1, 1), -12);
        due("he does not", b.count(3), 1);
        b.fly(0, 0);
        due("when the other does not", b.fly(1, 1), 1);
        b.agree(0, 1, 1);
        due("agreed", b.fly(0, 1), 1);
        due("both", b.count(3), 2);
        b.agree(0, 1, 0);
        due("asked again", b.fly(0, 1), -12);
        due("flies on", b.count(3), 2);
        b.tree(200 * 55 + 55);
        due("tree ahead of flyers", b.fly(0, 1), -11);
        due("rests", b.fly(0, 0), 1);
        due("rests", b.count(3), 1);
    }

    private static void why() {
        promise = 25;
        BridleBook b = new BridleBook();
        due("no flyer", b.why(0), BAD);
        b.line(5, 5, 0);
        b.line(1, 5, 0);
        b.flyer(200 * 50 + 50, 0);
        b.flyer(200 * 56 + 50, 1);
        due("flyer -1", b.why(-1), BAD);
        due("may", b.why(0), 0);
        b.fly(1, 1);
        due("cones side by side", b.why(0), 0);
        b.blow(1, 4);
        due("sidewards 4 and 1: 54, 55", b.why(0), 0);
        b.blow(1, 5);
        due("sidewards 5 and 1: 55, 55", b.why(0), 2);
        due("the other one, who flies, is alone", b.why(1), 0);
        b.tree(200 * 49 + 50);
        due("the tree is named first", b.why(0), 1);
        b.blow(0, 200);
        due("a tree behind", b.why(0), 0);
        b.blow(2, 0);
        due("the tree before him", b.why(0), 1);
        due("why changes nothing", b.count(3), 1);
    }

    private static void cone() {
        promise = 26;
        BridleBook b = new BridleBook();
        due("no flyer", b.cone(0, 0), BAD);
        b.line(10, 5, 0);
        b.flyer(200 * 50 + 50, 0);
        due("flyer -1", b.cone(-1, 0), BAD);
        due("place -1", b.cone(0, -1), BAD);
        due("place 40000", b.cone(0, 40000), BAD);
        for (int d = 0; d < 4; d++) {
            for (int shift = 0; shift <= 12; shift += 4) {
                coneAllAround(d, shift);
            }
        }
    }

    private static void coneAllAround(int d, int shift) {
        BridleBook b = new BridleBook();
        b.line(10, 5, 0);
        b.flyer(200 * 50 + 50, 0);
        b.blow(d, shift);
        int aheadX = d == 0 ? 1 : d == 2 ? -1 : 0;
        int aheadY = d == 1 ? 1 : d == 3 ? -1 : 0;
        int side = Math.min(shift, 10);
        for (int f = -1; f <= 11; f++) {
            for (int s = -11; s <= 11; s++) {
                int x = 50 + f * aheadX + s * aheadY;
                int y = 50 + f * aheadY + s * aheadX;
                int want = f >= 0 && f <= 10 && Math.abs(s) <= side ? 1 : 0;
                due("d " + d + " shift " + shift + " " + f + ", " + s, b.cone(0, 200 * x + y), want);
            }
        }
    }

    private static void conesMeetAtEdges() {
        promise = 26;
        BridleBook b = new BridleBook();
        b.line(1, 1, 9);
        b.line(3, 99, 0);
        b.flyer(0, 0);
        b.flyer(3, 1);
        b.part(0);
        due("a line of no steps: its place", b.cone(0, 0), 1);
        due("a line of no steps: beside", b.cone(0, 1), 0);
        b.fly(0, 1);
        promise = 25;
        due("meets at the corner", b.why(1), 2);
        b.blow(0, 2);
        due("just not", b.why(1), 0);
        b.blow(3, 0);
        due("straight at him", b.why(1), 2);
    }

    // ---- turns

    private static BridleBook withLines(int n) {
        BridleBook b = new BridleBook();
        for (int i = 0; i < n; i++) {
            b.line(10, 100, 0);
        }
        return b;
    }

    private static void turn() {
        promise = 27;
        BridleBook b = withLines(4);
        due("no a", b.turn(4, 0, 1), BAD);
        due("no b", b.turn(0, 4, 1), BAD);
        due("a -1", b.turn(-1, 0, 1), BAD);
        due("b -1", b.turn(0, -1, 1), BAD);
        due("one and the same", b.turn(2, 2, 1), BAD);
        due("way 0", b.turn(0, 1, 0), BAD);
        due("way 2", b.turn(0, 1, 2), BAD);
        due("way -2", b.turn(0, 1, -2), BAD);
        due("first", b.turn(0, 1, 1), 1);
        due("same way", b.turn(0, 1, 1), 2);
        due("other way", b.turn(1, 0, -1), 1);
        due("between", b.turn(2, 3, -1), 2);
        due("not right behind", b.turn(0, 1, -1), 3);
        due("undoes", b.turn(0, 1, 1), 2);
        due("undoes", b.turn(3, 2, 1), 1);
        due("undoes", b.turn(0, 1, -1), 0);
        due("left at first", b.turn(0, 1, -1), 1);
    }

    private static void turnFull() {
        promise = 27;
        BridleBook b = withLines(3);
        for (int i = 1; i <= 200; i++) {
            due("turn " + i, b.turn(0, 1, 1), i);
        }
        due("full", b.turn(0, 1, 1), FULL);
        due("full for others", b.turn(0, 2, 1), FULL);
        due("BAD ahead of FULL", b.turn(0, 0, 1), BAD);
        due("count", b.count(5), 200);
        due("undoes the last of a full row", b.turn(1, 0, -1), 199);
        due("one is gone", b.count(5), 199);
        due("room behind it", b.turn(0, 1, 1), 200);
        due("full again", b.turn(0, 1, 1), FULL);
        due("the other way, other lines", b.turn(0, 2, -1), FULL);
        due("FULL changes nothing", b.count(5), 200);
        due("a free line beside a full row", b.undo(2), 0);
        due("not tangled in a full row", b.tangled(0, 2), 0);
        due("FREE beside a full row", b.count(7), 1);
        due("unwind", b.unwind(1), 199);
        due("room again", b.turn(1, 2, 1), 200);
    }

    private static void tangled() {
        promise = 28;
        BridleBook b = withLines(4);
        due("no a", b.tangled(4, 0), BAD);
        due("no b", b.tangled(0, 4), BAD);
        due("a -1", b.tangled(-1, 0), BAD);
        due("one and the same", b.tangled(1, 1), BAD);
        due("none", b.tangled(0, 1), 0);
        b.turn(0, 1, 1);
        b.turn(1, 2, 1);
        b.turn(1, 0, -1);
        b.turn(0, 3, 1);
        due("right and left", b.tangled(0, 1), 2);
        due("the other way about", b.tangled(1, 0), 2);
        due("1 and 2", b.tangled(2, 1), 1);
        due("0 and 2", b.tangled(0, 2), 0);
        due("one and the same, tangled", b.tangled(0, 0), BAD);
    }

    private static void undo() {
        promise = 29;
        BridleBook b = withLines(5);
        due("no line", b.undo(5), BAD);
        due("line -1", b.undo(-1), BAD);
        due("free", b.undo(0), 0);
        b.turn(0, 1, 1);
        b.turn(1, 2, 1);
        b.turn(2, 3, 1);
        due("0", b.undo(0), 3);
        due("1", b.undo(1), 3);
        due("2", b.undo(2), 2);
        due("3", b.undo(3), 1);
        due("4", b.undo(4), 0);
        due("nothing is undone", b.count(5), 3);
    }

    private static void unwind() {
        promise = 30;
        BridleBook b = withLines(3);
        due("none there", b.unwind(1), BAD);
        b.turn(0, 1, 1);
        b.turn(1, 2, 1);
        b.turn(0, 2, 1);
        due("0", b.unwind(0), BAD);
        due("-1", b.unwind(-1), BAD);
        due("4", b.unwind(4), BAD);
        due("MAX", b.unwind(MAX), BAD);
        due("2", b.unwind(2), 1);
        due("the first stays", b.tangled(0, 1), 1);
        due("1", b.unwind(1), 0);
    }

    private static void cut() {
        promise = 31;
        BridleBook b = withLines(4);
        b.kite();
        b.kite();
        b.tie(0, 1, 5);
        b.tie(1, 1, 4);
        b.weaken(1, 5);
        b.weaken(1, 2);
        b.turn(0, 1, 1);
        b.turn(2, 3, 1);
        b.turn(1, 2, -1);
        due("no a", b.cut(4, 1, 1), BAD);
        due("no b", b.cut(0, 4, 1), BAD);
        due("step 0", b.cut(0, 1, 0), BAD);
        due("step 11", b.cut(0, 1, 11), BAD);
        due("one and the same", b.cut(1, 1, 1), BAD);
        due("nothing is cut", b.ofLine(1, 0), 10);
        due("nothing is undone", b.count(5), 3);
        due("not tangled", b.cut(0, 2, 1), NOT);
        due("BAD ahead of NOT", b.cut(0, 2, 11), BAD);
        due("cut", b.cut(0, 1, 5), 1);
        due("STEPS", b.ofLine(1, 0), 4);
        due("KITES", b.ofLine(1, 1), 1);
        due("KNOTS", b.ofLine(1, 2), 1);
        due("kite 0 is off", b.untie(0), NOT);
        due("kite 1 is on", b.untie(1), 1);
        due("the cutter's line is whole", b.ofLine(0, 0), 10);
        due("2 and 3 stay", b.tangled(2, 3), 1);
        due("free now", b.cut(0, 1, 1), NOT);
    }

    private static void cutUndoesAgainAndAgain() {
        promise = 31;
        BridleBook b = withLines(4);
        b.turn(0, 2, 1);
        b.turn(2, 3, 1);
        b.turn(0, 3, -1);
        b.turn(0, 1, 1);
        b.turn(0, 3, 1);
        b.turn(1, 2, 1);
        b.turn(2, 3, -1);
        b.turn(0, 2, 1);
        // without line 1: 02+ 23+ 03- 03+ 23- 02+ becomes 02+ 02+
        due("again and again", b.cut(0, 1, 1), 2);
        due("0 and 2", b.tangled(0, 2), 2);
        due("STEPS", b.ofLine(1, 0), 0);
        b.turn(1, 2, 1);
        due("a line of no steps", b.cut(2, 1, 1), BAD);
        due("it can cut", b.cut(1, 2, 10), 0);
    }

    private static void count() {
        promise = 32;
        BridleBook b = withLines(5);
        b.kite();
        b.kite();
        b.kite();
        b.tie(0, 0, 1);
        b.tie(2, 1, 1);
        b.flyer(0, 0);
        b.flyer(30000, 1);
        b.fly(1, 1);
        b.tree(20000);
        b.tree(20001);
        b.tree(20002);
        b.tree(20003);
        b.turn(0, 1, 1);
        b.turn(0, 2, 1);
        b.turn(0, 2, 1);
        b.turn(0, 2, 1);
        b.turn(0, 2, 1);
        b.turn(0, 2, 1);
        due("KITES", b.count(0), 3);
        due("LINES", b.count(1), 5);
        due("FLYERS", b.count(2), 2);
        due("who fly", b.count(3), 1);
        due("TREES", b.count(4), 4);
        due("turns", b.count(5), 6);
        due("tied", b.count(6), 2);
        due("FREE", b.count(7), 2);
        due("-1", b.count(-1), BAD);
        due("8", b.count(8), BAD);
        due("MIN", b.count(MIN), BAD);
    }
}
