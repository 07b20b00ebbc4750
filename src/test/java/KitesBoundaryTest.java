/** Promises 1 to 10: a test of its own for each boundary case of a new object and of the kites. */
public final class KitesBoundaryTest extends BoundaryTests {
    public static void main(String[] args) {
        runAll(KitesBoundaryTest.class, 1, 10);
    }

    // ---- promise 1: "No kites, no lines, an empty field."

    static void promise1NewObjectHasNoKites() {
        BridleBook b = new BridleBook();
        due("count(0)", b.count(0), 0);
        due("count(6)", b.count(6), 0);
        due("panel", b.panel(0, 1, 0, 0), BAD);
        due("knot", b.knot(0, 0), VOID);
        due("force", b.force(0, 0, 0, 0), VOID);
        due("stands", b.stands(0, 0), BAD);
        due("steady", b.steady(0, 0), BAD);
        due("pull", b.pull(0, 0, 0), VOID);
        due("trim", b.trim(0, 0, 0, 17), VOID);
        due("untie", b.untie(0), BAD);
        b.line(1, 1, 0);
        due("tie", b.tie(0, 0, 1), BAD);
    }

    static void promise1NewObjectHasNoLines() {
        BridleBook b = new BridleBook();
        due("count(1)", b.count(1), 0);
        due("count(7)", b.count(7), 0);
        due("weaken", b.weaken(0, 1), BAD);
        due("ofLine", b.ofLine(0, 0), VOID);
        due("step", b.step(0, 1, 0), VOID);
        due("part", b.part(0), BAD);
        due("least", b.least(0, 0), BAD);
        due("flyer", b.flyer(0, 0), BAD);
        due("turn", b.turn(0, 1, 1), BAD);
        due("tangled", b.tangled(0, 1), BAD);
        due("undo", b.undo(0), BAD);
        due("cut", b.cut(0, 1, 1), BAD);
        b.kite();
        due("tie", b.tie(0, 0, 1), BAD);
    }

    static void promise1NewObjectHasAnEmptyField() {
        BridleBook b = new BridleBook();
        for (int what = 2; what <= 5; what++) {
            due("count(" + what + ")", b.count(what), 0);
        }
        due("agree", b.agree(0, 1, 1), BAD);
        due("fly", b.fly(0, 0), BAD);
        due("why", b.why(0), BAD);
        due("cone", b.cone(0, 0), BAD);
        due("unwind", b.unwind(1), BAD);
        due("the first tree", b.tree(0), 1);
    }

    static void promise1ObjectsHaveNothingInCommon() {
        BridleBook full = withLines(2);
        full.kite();
        full.table(9, 0, 0);
        full.wind(0, 99);
        full.blow(3, 0);
        full.tree(0);
        full.turn(0, 1, 1);
        full.flyer(0, 0);
        full.fly(0, 1);
        BridleBook b = new BridleBook();
        for (int what = 0; what <= 7; what++) {
            due("count(" + what + ")", b.count(what), 0);
        }
        due("table", b.table(9, 0, 0), 81);
        due("wind", b.wind(0, 0), 10);
        due("blow", b.blow(0, 0), 2000);
    }

    // ---- promise 2: "A KITE without PANELS: its number. FULL."; "KITES 0 .. 19"

    static void promise2FirstKiteIsNumber0() {
        due("kite()", new BridleBook().kite(), 0);
    }

    static void promise2LastKiteIsNumber19() {
        due("kite() the 20th time", withKites(19).kite(), 19);
    }

    static void promise2TwentyFirstKiteIsFull() {
        BridleBook b = withKites(20);
        due("kite() the 21st time", b.kite(), FULL);
        due("kite() the 22nd time", b.kite(), FULL);
    }

    static void promise2FullChangesNothing() {
        BridleBook b = withKites(20);
        b.panel(0, 1, 0, 3);
        b.panel(19, 1, 0, 7);
        b.kite();
        due("count(0)", b.count(0), 20);
        due("no kite 20", b.panel(20, 1, 0, 0), BAD);
        due("the weight of kite 0", b.force(0, 0, 0, 0), -3);
        due("the weight of kite 19", b.force(19, 0, 0, 0), -7);
    }

    static void promise2NewKiteIsWithoutPanels() {
        BridleBook b = withKites(1);
        due("UP", b.force(0, 99, 9, 0), 0);
        due("BACK", b.force(0, 99, 9, 1), 0);
        due("TURN", b.force(0, 99, 9, 2), 0);
        due("its first panel", b.panel(0, 1, 0, 0), 0);
    }

    static void promise2NewKiteIsTiedToNoLine() {
        BridleBook b = withKites(1);
        b.line(1, 1, 0);
        due("untie", b.untie(0), NOT);
        due("KITES of line 0", b.ofLine(0, 1), 0);
    }

    // ---- promise 3: "A PANEL more: its number. BAD, FULL."; "PANELS 0 .. 5 of each"

    static void promise3KiteBelow0IsBad() {
        BridleBook b = withKites(1);
        due("kite -1", b.panel(-1, 1, 0, 0), BAD);
        due("kite MIN", b.panel(MIN, 1, 0, 0), BAD);
    }

    static void promise3KiteNotYetMadeIsBad() {
        BridleBook b = withKites(1);
        due("kite 1", b.panel(1, 1, 0, 0), BAD);
        due("kite 19", b.panel(19, 1, 0, 0), BAD);
        due("kite MAX", b.panel(MAX, 1, 0, 0), BAD);
    }

    static void promise3KiteAbove19IsBad() {
        BridleBook b = withKites(20);
        due("kite 20", b.panel(20, 1, 0, 0), BAD);
        due("kite 19", b.panel(19, 1, 0, 0), 0);
    }

    static void promise3AreaBelow1IsBad() {
        BridleBook b = withKites(1);
        due("area 0", b.panel(0, 0, 0, 0), BAD);
        due("area -1", b.panel(0, -1, 0, 0), BAD);
        due("area MIN", b.panel(0, MIN, 0, 0), BAD);
        due("area 1", b.panel(0, 1, 0, 0), 0);
    }

    static void promise3AreaAbove99IsBad() {
        BridleBook b = withKites(1);
        due("area 100", b.panel(0, 100, 0, 0), BAD);
        due("area MAX", b.panel(0, MAX, 0, 0), BAD);
        due("area 99", b.panel(0, 99, 0, 0), 0);
    }

    static void promise3ArmBelowMinus99IsBad() {
        BridleBook b = withKites(1);
        due("arm -100", b.panel(0, 1, -100, 0), BAD);
        due("arm MIN", b.panel(0, 1, MIN, 0), BAD);
        due("arm -99", b.panel(0, 1, -99, 0), 0);
    }

    static void promise3ArmAbove99IsBad() {
        BridleBook b = withKites(1);
        due("arm 100", b.panel(0, 1, 100, 0), BAD);
        due("arm MAX", b.panel(0, 1, MAX, 0), BAD);
        due("arm 99", b.panel(0, 1, 99, 0), 0);
    }

    static void promise3WeightBelow0IsBad() {
        BridleBook b = withKites(1);
        due("weight -1", b.panel(0, 1, 0, -1), BAD);
        due("weight MIN", b.panel(0, 1, 0, MIN), BAD);
        due("weight 0", b.panel(0, 1, 0, 0), 0);
    }

    static void promise3WeightAbove99IsBad() {
        BridleBook b = withKites(1);
        due("weight 100", b.panel(0, 1, 0, 100), BAD);
        due("weight MAX", b.panel(0, 1, 0, MAX), BAD);
        due("weight 99", b.panel(0, 1, 0, 99), 0);
    }

    static void promise3BadChangesNothing() {
        BridleBook b = withKites(1);
        b.panel(0, 0, 0, 9);
        b.panel(0, 1, 100, 9);
        b.panel(0, 1, 0, 100);
        due("no weight", b.force(0, 0, 0, 0), 0);
        due("the next panel's number", b.panel(0, 1, 0, 0), 0);
    }

    private static BridleBook withSixPanels() {
        BridleBook b = withKites(2);
        for (int i = 0; i < 6; i++) {
            b.panel(0, 1, 0, 1);
        }
        return b;
    }

    static void promise3SixthPanelIsNumber5() {
        BridleBook b = withKites(1);
        for (int i = 0; i < 6; i++) {
            due("panel " + i, b.panel(0, 1, 0, 0), i);
        }
    }

    static void promise3SeventhPanelIsFull() {
        BridleBook b = withSixPanels();
        due("the 7th", b.panel(0, 1, 0, 0), FULL);
        due("the 8th", b.panel(0, 1, 0, 0), FULL);
    }

    static void promise3FullChangesNothing() {
        BridleBook b = withSixPanels();
        b.panel(0, 1, 50, 99);
        due("weights of six", b.force(0, 0, 0, 0), -6);
        due("TURN of six", b.force(0, 0, 0, 2), 0);
    }

    static void promise3BadIsNamedAheadOfFull() {
        BridleBook b = withSixPanels();
        due("area 0", b.panel(0, 0, 0, 0), BAD);
        due("arm 100", b.panel(0, 1, 100, 0), BAD);
        due("weight 100", b.panel(0, 1, 0, 100), BAD);
    }

    static void promise3OneFullKiteLeavesTheOtherRoom() {
        due("kite 1", withSixPanels().panel(1, 1, 0, 0), 0);
    }

    // ---- promise 4: "where it was. VOID: BAD."; "-99 .. 99; 0 at first"

    static void promise4KnotIsAt0AtFirst() {
        due("knot", withKites(1).knot(0, 5), 0);
    }

    static void promise4ArmBelowMinus99IsVoid() {
        BridleBook b = withKites(1);
        due("arm -100", b.knot(0, -100), VOID);
        due("arm MIN", b.knot(0, MIN), VOID);
        due("arm -99", b.knot(0, -99), 0);
        due("it was at -99", b.knot(0, 0), -99);
    }

    static void promise4ArmAbove99IsVoid() {
        BridleBook b = withKites(1);
        due("arm 100", b.knot(0, 100), VOID);
        due("arm MAX", b.knot(0, MAX), VOID);
        due("arm 99", b.knot(0, 99), 0);
        due("it was at 99", b.knot(0, 0), 99);
    }

    static void promise4NoSuchKiteIsVoid() {
        BridleBook b = withKites(20);
        due("kite -1", b.knot(-1, 0), VOID);
        due("kite 20", b.knot(20, 0), VOID);
        due("kite MIN", b.knot(MIN, 0), VOID);
        due("kite MAX", b.knot(MAX, 0), VOID);
        due("kite 19", b.knot(19, 0), 0);
        due("a kite not yet made", withKites(1).knot(1, 0), VOID);
    }

    static void promise4VoidChangesNothing() {
        BridleBook b = withKites(1);
        b.knot(0, 7);
        b.knot(0, 100);
        b.knot(0, -100);
        due("the knot", b.knot(0, 0), 7);
    }

    // ---- promise 5: "what it was. VOID: BAD."; "-99 .. 99, 0 .. 99; at first LIFT .. 9 a up to 9, then 162 - 9 a"

    static void promise5LiftAtFirst() {
        BridleBook b = new BridleBook();
        due("LIFT of 0", b.table(0, 0, 0), 0);
        due("LIFT of 9", b.table(9, 0, 0), 81);
        due("LIFT of 10", b.table(10, 0, 0), 72);
        due("LIFT of 17", b.table(17, 0, 0), 9);
    }

    static void promise5DragAtFirst() {
        BridleBook b = new BridleBook();
        due("DRAG of 0", b.table(0, 1, 0), 0);
        due("DRAG of 9", b.table(9, 1, 0), 18);
        due("DRAG of 10", b.table(10, 1, 0), 20);
        due("DRAG of 17", b.table(17, 1, 0), 34);
    }

    static void promise5AngleBelow0IsVoid() {
        BridleBook b = new BridleBook();
        due("angle -1", b.table(-1, 0, 0), VOID);
        due("angle -1, DRAG", b.table(-1, 1, 0), VOID);
        due("angle MIN", b.table(MIN, 0, 0), VOID);
    }

    static void promise5AngleAbove17IsVoid() {
        BridleBook b = new BridleBook();
        due("angle 18", b.table(18, 0, 0), VOID);
        due("angle 18, DRAG", b.table(18, 1, 0), VOID);
        due("angle MAX", b.table(MAX, 0, 0), VOID);
    }

    static void promise5WhatBeside0And1IsVoid() {
        BridleBook b = new BridleBook();
        due("what -1", b.table(0, -1, 0), VOID);
        due("what 2", b.table(0, 2, 0), VOID);
        due("what MIN", b.table(0, MIN, 0), VOID);
        due("what MAX", b.table(0, MAX, 0), VOID);
    }

    static void promise5LiftBelowMinus99IsVoid() {
        BridleBook b = new BridleBook();
        due("LIFT -100", b.table(0, 0, -100), VOID);
        due("LIFT MIN", b.table(0, 0, MIN), VOID);
        due("LIFT -99", b.table(0, 0, -99), 0);
        due("it was -99", b.table(0, 0, 0), -99);
    }

    static void promise5LiftAbove99IsVoid() {
        BridleBook b = new BridleBook();
        due("LIFT 100", b.table(0, 0, 100), VOID);
        due("LIFT MAX", b.table(0, 0, MAX), VOID);
        due("LIFT 99", b.table(0, 0, 99), 0);
        due("it was 99", b.table(0, 0, 0), 99);
    }

    static void promise5DragBelow0IsVoid() {
        BridleBook b = new BridleBook();
        due("DRAG -1", b.table(17, 1, -1), VOID);
        due("DRAG MIN", b.table(17, 1, MIN), VOID);
        due("DRAG 0", b.table(17, 1, 0), 34);
        due("it was 0", b.table(17, 1, 5), 0);
    }

    static void promise5DragAbove99IsVoid() {
        BridleBook b = new BridleBook();
        due("DRAG 100", b.table(17, 1, 100), VOID);
        due("DRAG MAX", b.table(17, 1, MAX), VOID);
        due("DRAG 99", b.table(17, 1, 99), 34);
        due("it was 99", b.table(17, 1, 0), 99);
    }

    static void promise5VoidChangesNothing() {
        BridleBook b = new BridleBook();
        b.table(17, 0, 100);
        b.table(17, 0, -100);
        b.table(17, 1, 100);
        b.table(17, 1, -1);
        b.table(17, 2, 50);
        due("LIFT", b.table(17, 0, 0), 9);
        due("DRAG", b.table(17, 1, 0), 34);
    }

    static void promise5TheTablesAreTheSameForAllKites() {
        BridleBook b = withKites(20);
        b.panel(0, 10, 0, 0);
        b.panel(19, 10, 0, 0);
        b.table(17, 0, -99);
        due("kite 0", b.force(0, 10, 17, 0), -99);
        due("kite 19", b.force(19, 10, 17, 0), -99);
    }

    // ---- promise 6: "By a WIND at an ANGLE: UP (what 0), BACK (1), TURN (2). VOID: BAD."; "each cut toward 0"

    static void promise6NoSuchKiteIsVoid() {
        BridleBook b = withKites(20);
        due("kite -1", b.force(-1, 0, 0, 0), VOID);
        due("kite 20", b.force(20, 0, 0, 0), VOID);
        due("kite MIN", b.force(MIN, 0, 0, 0), VOID);
        due("kite MAX", b.force(MAX, 0, 0, 0), VOID);
        due("kite 19", b.force(19, 0, 0, 0), 0);
        due("a kite not yet made", withKites(1).force(1, 0, 0, 0), VOID);
    }

    static void promise6WindBelow0IsVoid() {
        BridleBook b = withLifts(50);
        due("wind -1", b.force(0, -1, 0, 0), VOID);
        due("wind MIN", b.force(0, MIN, 0, 0), VOID);
        due("wind 0", b.force(0, 0, 0, 0), 0);
    }

    static void promise6WindAbove99IsVoid() {
        BridleBook b = withLifts(50);
        due("wind 100", b.force(0, 100, 0, 0), VOID);
        due("wind MAX", b.force(0, MAX, 0, 0), VOID);
        // 10 50 99 99 / 1000 is 4900.5
        due("wind 99", b.force(0, 99, 0, 0), 4900);
    }

    static void promise6AngleBelow0IsVoid() {
        BridleBook b = withLifts(50, 60);
        due("angle -1", b.force(0, 10, -1, 0), VOID);
        due("angle MIN", b.force(0, 10, MIN, 0), VOID);
        due("angle 0", b.force(0, 10, 0, 0), 50);
    }

    static void promise6AngleAbove17IsVoid() {
        BridleBook b = withLifts(50, 60);
        due("angle 18", b.force(0, 10, 18, 0), VOID);
        due("angle MAX", b.force(0, 10, MAX, 0), VOID);
        due("angle 17", b.force(0, 10, 17, 0), 60);
    }

    static void promise6WhatBeside0To2IsVoid() {
        BridleBook b = withLifts(50);
        due("what -1", b.force(0, 10, 0, -1), VOID);
        due("what 3", b.force(0, 10, 0, 3), VOID);
        due("what MIN", b.force(0, 10, 0, MIN), VOID);
        due("what MAX", b.force(0, 10, 0, MAX), VOID);
        b.knot(0, -4);
        due("what 0", b.force(0, 10, 1, 0), 50);
        due("what 1", b.force(0, 10, 1, 1), 2);
        due("what 2", b.force(0, 10, 1, 2), 50 * 5);
    }

    static void promise6KiteWithoutPanelsHasNoForces() {
        BridleBook b = withKites(1);
        for (int what = 0; what <= 2; what++) {
            due("what " + what, b.force(0, 99, 9, what), 0);
        }
    }

    static void promise6WithoutWindOnlyTheWeightsAct() {
        BridleBook b = withKites(1);
        b.panel(0, 99, 2, 7);
        b.panel(0, 99, 5, 4);
        due("UP", b.force(0, 0, 9, 0), -11);
        due("BACK", b.force(0, 0, 9, 1), 0);
        due("TURN", b.force(0, 0, 9, 2), -7 * 2 - 4 * 5);
    }

    static void promise6LiftAbove0IsCutToward0() {
        BridleBook b = withKites(1);
        b.panel(0, 1, 10, 0);
        b.table(0, 0, 19);
        // 1 19 10 10 / 1000 is 1.9
        due("UP", b.force(0, 10, 0, 0), 1);
        due("TURN", b.force(0, 10, 0, 2), 10);
    }

    static void promise6LiftBelow0IsCutToward0() {
        BridleBook b = withKites(1);
        b.panel(0, 1, 10, 0);
        b.table(0, 0, -19);
        due("UP", b.force(0, 10, 0, 0), -1);
        due("TURN", b.force(0, 10, 0, 2), -10);
        b.table(0, 0, -9);
        due("UP of -0.9", b.force(0, 10, 0, 0), 0);
        due("TURN of -0.9", b.force(0, 10, 0, 2), 0);
    }

    static void promise6EachPanelIsCutByItself() {
        BridleBook b = withKites(1);
        b.panel(0, 1, 10, 0);
        b.panel(0, 1, 10, 0);
        b.table(0, 0, 19);
        b.table(0, 1, 19);
        // 1.9 and 1.9: 1 and 1, where the sum cut would be 3
        due("UP", b.force(0, 10, 0, 0), 2);
        due("BACK", b.force(0, 10, 0, 1), 2);
        due("TURN", b.force(0, 10, 0, 2), 20);
    }

    static void promise6WeightIsTakenOffBehindTheCut() {
        BridleBook b = withKites(1);
        b.panel(0, 1, 10, 1);
        b.table(0, 0, -19);
        // -1.9 is cut to -1 first; then the weight of 1 goes off
        due("UP", b.force(0, 10, 0, 0), -2);
        due("TURN", b.force(0, 10, 0, 2), -20);
    }

    private static BridleBook withTheGreatestKite(int weight) {
        BridleBook b = withKites(1);
        for (int i = 0; i < 6; i++) {
            b.panel(0, 99, 99, weight);
        }
        b.knot(0, -99);
        b.table(0, 0, 99);
        b.table(0, 1, 99);
        b.table(1, 0, -99);
        return b;
    }

    static void promise6TheGreatestForces() {
        BridleBook b = withTheGreatestKite(0);
        // 99 99 99 99 / 1000 is 96059.601
        due("UP", b.force(0, 99, 0, 0), 6 * 96059);
        due("BACK", b.force(0, 99, 0, 1), 6 * 96059);
        due("TURN", b.force(0, 99, 0, 2), 6 * 96059 * 198);
    }

    static void promise6TheLeastForces() {
        BridleBook b = withTheGreatestKite(99);
        due("UP", b.force(0, 99, 1, 0), 6 * -96158);
        due("TURN", b.force(0, 99, 1, 2), 6 * -96158 * 198);
    }

    // ---- promise 7: "NOT: it TUMBLES. BAD."; "the first ANGLE a (from 0 on) .. (a up to 16) .. if there is none: it TUMBLES"

    static void promise7NoSuchKiteIsBad() {
        BridleBook b = withKites(20);
        due("kite -1", b.stands(-1, 0), BAD);
        due("kite 20", b.stands(20, 0), BAD);
        due("kite MIN", b.stands(MIN, 0), BAD);
        due("kite MAX", b.stands(MAX, 0), BAD);
        due("kite 19", b.stands(19, 0), NOT);
        due("a kite not yet made", withKites(1).stands(1, 0), BAD);
    }

    static void promise7WindBelow0IsBad() {
        BridleBook b = withLifts(5, -5);
        due("wind -1", b.stands(0, -1), BAD);
        due("wind MIN", b.stands(0, MIN), BAD);
        due("wind 0: no TURN at 0", b.stands(0, 0), 0);
    }

    static void promise7WindAbove99IsBad() {
        BridleBook b = withLifts(5, 5, -5);
        due("wind 100", b.stands(0, 100), BAD);
        due("wind MAX", b.stands(0, MAX), BAD);
        due("wind 99", b.stands(0, 99), 1);
    }

    static void promise7BadIsNamedAheadOfNot() {
        due("wind 100, without panels", withKites(1).stands(0, 100), BAD);
    }

    static void promise7KiteWithoutPanelsTumbles() {
        BridleBook b = withKites(1);
        due("wind 0", b.stands(0, 0), NOT);
        due("wind 99", b.stands(0, 99), NOT);
    }

    static void promise7StandsAtAngle0WithoutTurn() {
        due("TURN 0 at once", withLifts(0, 5).stands(0, 10), 0);
        due("TURN 0 at all", withLifts(0).stands(0, 10), 0);
    }

    static void promise7StandsAtAngle0BeforeTheSignChanges() {
        due("above, below", withLifts(5, -5).stands(0, 10), 0);
        due("below, above", withLifts(-5, 5).stands(0, 10), 0);
    }

    static void promise7TurnToZeroIsNoChangeOfSign() {
        due("above, 0", withLifts(5, 0, 5).stands(0, 10), 1);
        due("below, 0", withLifts(-5, 0, -5).stands(0, 10), 1);
    }

    private static int[] liftsWithLast(int all, int last) {
        int[] lifts = new int[18];
        java.util.Arrays.fill(lifts, all);
        lifts[17] = last;
        return lifts;
    }

    static void promise7StandsAt16BeforeTheLastAngle() {
        due("above, below", withLifts(liftsWithLast(5, -5)).stands(0, 10), 16);
        due("below, above", withLifts(liftsWithLast(-5, 5)).stands(0, 10), 16);
    }

    static void promise7StandsAt17WithoutTurnAlone() {
        due("above, then 0", withLifts(liftsWithLast(5, 0)).stands(0, 10), 17);
        due("below, then 0", withLifts(liftsWithLast(-5, 0)).stands(0, 10), 17);
    }

    static void promise7NothingComesBehind17() {
        due("above at all", withLifts(5).stands(0, 10), NOT);
        due("below at all", withLifts(-5).stands(0, 10), NOT);
    }

    static void promise7TurnsOf1AreEnough() {
        due("1, -1", withLifts(1, -1).stands(0, 10), 0);
        due("-1, 1", withLifts(-1, 1).stands(0, 10), 0);
        due("1 at all", withLifts(1).stands(0, 10), NOT);
        due("-1 at all", withLifts(-1).stands(0, 10), NOT);
    }

    static void promise7TheFirstOfSeveralAngles() {
        due("1 and 3", withLifts(5, 5, -5, -5, 5).stands(0, 10), 1);
        due("2 and 3", withLifts(5, 5, 0, 0, 5).stands(0, 10), 2);
        due("0 and 2", withLifts(5, -5, 0).stands(0, 10), 0);
    }

    // ---- promise 8: "1 if it is STEADY, 0: it DIVES. BAD; NOT: it TUMBLES."

    static void promise8NoSuchKiteIsBad() {
        BridleBook b = withKites(20);
        due("kite -1", b.steady(-1, 0), BAD);
        due("kite 20", b.steady(20, 0), BAD);
        due("kite MIN", b.steady(MIN, 0), BAD);
        due("kite MAX", b.steady(MAX, 0), BAD);
        due("kite 19", b.steady(19, 0), NOT);
        due("a kite not yet made", withKites(1).steady(1, 0), BAD);
    }

    static void promise8WindBelow0IsBad() {
        BridleBook b = withLifts(5, -5);
        due("wind -1", b.steady(0, -1), BAD);
        due("wind MIN", b.steady(0, MIN), BAD);
        due("wind 0", b.steady(0, 0), 1);
    }

    static void promise8WindAbove99IsBad() {
        BridleBook b = withLifts(5, -5);
        due("wind 100", b.steady(0, 100), BAD);
        due("wind MAX", b.steady(0, MAX), BAD);
        due("wind 99", b.steady(0, 99), 1);
    }

    static void promise8BadIsNamedAheadOfNot() {
        due("wind 100, without panels", withKites(1).steady(0, 100), BAD);
    }

    static void promise8KiteWithoutPanelsTumbles() {
        due("wind 0", withKites(1).steady(0, 0), NOT);
    }

    static void promise8NoAngleToStandAtIsNot() {
        due("above at all", withLifts(5).steady(0, 10), NOT);
        due("below at all", withLifts(-5).steady(0, 10), NOT);
    }

    static void promise8AtAngle0TheAngleAheadIs0Itself() {
        due("above, below", withLifts(5, -5).steady(0, 10), 1);
        due("below, above", withLifts(-5, 5).steady(0, 10), 0);
        due("0, below", withLifts(0, -5).steady(0, 10), 1);
        due("0, above", withLifts(0, 5).steady(0, 10), 0);
    }

    static void promise8AtAngle17TheNextAngleIs17Itself() {
        due("above, then 0", withLifts(liftsWithLast(5, 0)).steady(0, 10), 1);
        due("below, then 0", withLifts(liftsWithLast(-5, 0)).steady(0, 10), 0);
    }

    /** With weights TURN would be below 0 without wind: nothing may be read ahead of 0. */
    static void promise8NothingIsReadAheadOf0() {
        BridleBook b = withKites(1);
        b.panel(0, 10, 1, 3);
        b.table(0, 0, 10);
        b.table(1, 0, -5);
        due("TURN at 0", b.force(0, 10, 0, 2), 7);
        due("steady", b.steady(0, 10), 1);
    }

    /** With weights TURN would be above 0 without wind: nothing may be read behind 17. */
    static void promise8NothingIsReadBehind17() {
        BridleBook b = withLifts(liftsWithLast(1, 3));
        b.kite();
        b.panel(1, 10, -1, 3);
        due("it stands at 17", b.stands(1, 10), 17);
        due("TURN at 16", b.force(1, 10, 16, 2), 2);
        due("steady", b.steady(1, 10), 1);
    }

    static void promise8OnlyTheVeryNextAngleCounts() {
        due("above, below, above", withLifts(5, 5, -5, 5).steady(0, 10), 1);
    }

    static void promise8BelowZeroAheadDives() {
        due("below, 0, below", withLifts(-5, 0, -5).steady(0, 10), 0);
        due("below by one", withLifts(-1, 0, -5).steady(0, 10), 0);
    }

    static void promise8AboveZeroNextDives() {
        due("above, 0, above", withLifts(5, 0, 5).steady(0, 10), 0);
        due("above by one", withLifts(5, 0, 1).steady(0, 10), 0);
    }

    static void promise8ZeroNextIsSteady() {
        due("above, 0, 0", withLifts(5, 0, 0).steady(0, 10), 1);
        due("0 at all", withLifts(0).steady(0, 10), 1);
    }

    // ---- promise 9: "PULL: UP (what 0), BACK (1). VOID: BAD."; "0 and less all WEIGHTS, if it TUMBLES"

    static void promise9NoSuchKiteIsVoid() {
        BridleBook b = withKites(20);
        due("kite -1", b.pull(-1, 0, 0), VOID);
        due("kite 20", b.pull(20, 0, 0), VOID);
        due("kite MIN", b.pull(MIN, 0, 0), VOID);
        due("kite MAX", b.pull(MAX, 0, 0), VOID);
        due("kite 19", b.pull(19, 0, 0), 0);
        due("a kite not yet made", withKites(1).pull(1, 0, 0), VOID);
    }

    static void promise9WindBelow0IsVoid() {
        BridleBook b = withLifts(50, -50);
        due("wind -1", b.pull(0, -1, 0), VOID);
        due("wind MIN", b.pull(0, MIN, 0), VOID);
        due("wind 0", b.pull(0, 0, 0), 0);
    }

    static void promise9WindAbove99IsVoid() {
        BridleBook b = withLifts(50, -50);
        due("wind 100", b.pull(0, 100, 0), VOID);
        due("wind MAX", b.pull(0, MAX, 0), VOID);
        due("wind 99", b.pull(0, 99, 0), 4900);
    }

    static void promise9WhatBeside0And1IsVoid() {
        BridleBook b = withLifts(5, 5, -5);
        due("what -1", b.pull(0, 10, -1), VOID);
        due("what 2", b.pull(0, 10, 2), VOID);
        due("what MIN", b.pull(0, 10, MIN), VOID);
        due("what MAX", b.pull(0, 10, MAX), VOID);
        due("what 0", b.pull(0, 10, 0), 5);
        due("what 1", b.pull(0, 10, 1), 2);
    }

    static void promise9TumblingPullsByItsWeightsAlone() {
        BridleBook b = withLifts(50);
        b.panel(0, 99, 1, 9);
        b.panel(0, 99, 1, 99);
        due("it tumbles", b.stands(0, 99), NOT);
        due("UP", b.pull(0, 99, 0), -108);
        due("BACK", b.pull(0, 99, 1), 0);
    }

    static void promise9KiteWithoutPanelsPullsNothing() {
        BridleBook b = withKites(1);
        due("UP", b.pull(0, 99, 0), 0);
        due("BACK", b.pull(0, 99, 1), 0);
    }

    static void promise9StandingAtTheLastAngle() {
        BridleBook b = withLifts(liftsWithLast(5, 0));
        due("UP", b.pull(0, 10, 0), 0);
        due("BACK by DRAG 34", b.pull(0, 10, 1), 34);
    }

    // ---- promise 10: "The first ARM of a KNOT (from -99 on) .. VOID: BAD (a above b, too), or none."

    static void promise10NoSuchKiteIsVoid() {
        BridleBook b = withKites(20);
        b.panel(19, 1, 0, 0);
        due("kite -1", b.trim(-1, 0, 0, 17), VOID);
        due("kite 20", b.trim(20, 0, 0, 17), VOID);
        due("kite MIN", b.trim(MIN, 0, 0, 17), VOID);
        due("kite MAX", b.trim(MAX, 0, 0, 17), VOID);
        due("kite 19", b.trim(19, 0, 0, 17), -99);
    }

    static void promise10WindBelow0IsVoid() {
        BridleBook b = withLifts(5, -5);
        due("wind -1", b.trim(0, -1, 0, 17), VOID);
        due("wind MIN", b.trim(0, MIN, 0, 17), VOID);
        due("wind 0", b.trim(0, 0, 0, 17), -99);
    }

    static void promise10WindAbove99IsVoid() {
        BridleBook b = withLifts(5, -5);
        due("wind 100", b.trim(0, 100, 0, 17), VOID);
        due("wind MAX", b.trim(0, MAX, 0, 17), VOID);
        due("wind 99", b.trim(0, 99, 0, 17), -99);
    }

    static void promise10AnglesBelow0AreVoid() {
        BridleBook b = withLifts(5, -5);
        due("a -1", b.trim(0, 10, -1, 17), VOID);
        due("a MIN", b.trim(0, 10, MIN, 17), VOID);
        due("a and b -1", b.trim(0, 10, -1, -1), VOID);
        due("a 0", b.trim(0, 10, 0, 0), -99);
    }

    static void promise10AnglesAbove17AreVoid() {
        BridleBook b = withLifts(liftsWithLast(5, 0));
        due("b 18", b.trim(0, 10, 0, 18), VOID);
        due("b MAX", b.trim(0, 10, 0, MAX), VOID);
        due("a and b 18", b.trim(0, 10, 18, 18), VOID);
        due("b 17", b.trim(0, 10, 17, 17), -99);
    }

    static void promise10AngleAAboveBIsVoid() {
        BridleBook b = withLifts(5, 5, -5);
        due("2 to 1", b.trim(0, 10, 2, 1), VOID);
        due("17 to 0", b.trim(0, 10, 17, 0), VOID);
        due("1 to 1", b.trim(0, 10, 1, 1), -99);
    }

    static void promise10AnglesAAndBAreWithin() {
        BridleBook b = withLifts(5, 5, -5);
        due("0 to 1", b.trim(0, 10, 0, 1), -99);
        due("1 to 2", b.trim(0, 10, 1, 2), -99);
        due("2 to 17", b.trim(0, 10, 2, 17), VOID);
    }

    private static BridleBook withRisingLiftAtArm(int arm) {
        BridleBook b = withKites(1);
        b.panel(0, 10, arm, 0);
        for (int a = 0; a < 18; a++) {
            b.table(a, 0, a < 5 ? -5 : 5);
        }
        return b;
    }

    static void promise10FirstArmTriedIsMinus99() {
        BridleBook b = withRisingLiftAtArm(-99);
        // at its own arm TURN is 0, so it stands at 0; with a knot above it at 4
        due("at 0", b.trim(0, 10, 0, 0), -99);
        due("at 4", b.trim(0, 10, 4, 4), -98);
    }

    static void promise10LastArmTriedIs99() {
        BridleBook b = withRisingLiftAtArm(99);
        due("at 0", b.trim(0, 10, 0, 0), 99);
        due("at 4, by 98", withRisingLiftAtArm(98).trim(0, 10, 4, 4), 99);
        due("at 4, by 99: none", b.trim(0, 10, 4, 4), VOID);
    }

    static void promise10StandingButDivingIsNotEnough() {
        BridleBook b = withRisingLiftAtArm(40);
        due("it stands at 4 with knot 0", b.stands(0, 10), 4);
        due("it dives", b.steady(0, 10), 0);
        due("steady at 4", b.trim(0, 10, 4, 4), 41);
    }

    static void promise10NoneIsVoid() {
        due("above at all, from 1 on", withLifts(5).trim(0, 10, 1, 17), VOID);
    }

    static void promise10KiteWithoutPanelsIsVoid() {
        due("none", withKites(1).trim(0, 0, 0, 17), VOID);
    }

    static void promise10TheKnotStaysWhereItWas() {
        BridleBook b = withLifts(5, -5);
        b.knot(0, 33);
        b.trim(0, 10, 0, 17);
        b.trim(0, 10, 5, 17);
        due("the knot", b.knot(0, 0), 33);
    }
}
