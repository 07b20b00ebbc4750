/** Promises 11 to 19: a test of its own for each boundary case of the winds and the lines. */
public final class LinesBoundaryTest extends BoundaryTests {
    public static void main(String[] args) {
        runAll(LinesBoundaryTest.class, 11, 19);
    }

    /** Line 0 of one step, cut off by its own weight: it has no steps left. */
    private static BridleBook withLineWithoutSteps() {
        BridleBook b = new BridleBook();
        b.line(1, 1, 9);
        b.part(0);
        return b;
    }

    // ---- promise 11: "WIND of a BAND: what it was. BAD."; "(0 .. 19) a WIND v (told; 10 at first), above that as of BAND 19"

    static void promise11EveryBandIs10AtFirst() {
        BridleBook b = new BridleBook();
        for (int band = 0; band < 20; band++) {
            due("band " + band, b.wind(band, 0), 10);
        }
    }

    static void promise11BandBelow0IsBad() {
        BridleBook b = new BridleBook();
        due("band -1", b.wind(-1, 5), BAD);
        due("band MIN", b.wind(MIN, 5), BAD);
        due("band 0", b.wind(0, 5), 10);
    }

    static void promise11BandAbove19IsBad() {
        BridleBook b = new BridleBook();
        due("band 20", b.wind(20, 5), BAD);
        due("band MAX", b.wind(MAX, 5), BAD);
        due("band 19", b.wind(19, 5), 10);
    }

    static void promise11WindBelow0IsBad() {
        BridleBook b = new BridleBook();
        due("v -1", b.wind(0, -1), BAD);
        due("v MIN", b.wind(0, MIN), BAD);
        due("v 0", b.wind(0, 0), 10);
        due("it was 0", b.wind(0, 1), 0);
    }

    static void promise11WindAbove99IsBad() {
        BridleBook b = new BridleBook();
        due("v 100", b.wind(0, 100), BAD);
        due("v MAX", b.wind(0, MAX), BAD);
        due("v 99", b.wind(0, 99), 10);
        due("it was 99", b.wind(0, 1), 99);
    }

    static void promise11BadChangesNothing() {
        BridleBook b = new BridleBook();
        b.wind(0, 100);
        b.wind(19, -1);
        b.wind(20, 50);
        b.wind(-1, 50);
        due("band 0", b.wind(0, 0), 10);
        due("band 19", b.wind(19, 0), 10);
    }

    /** UP of a kite tied at a step, where only one band has wind. */
    private static int upByBand(int step, int band) {
        BridleBook b = withPull(50, 0);
        for (int h = 0; h < 20; h++) {
            b.wind(h, h == band ? 10 : 0);
        }
        b.line(200, 99999, 0);
        b.tie(0, 0, step);
        return b.ofLine(0, 3);
    }

    static void promise11LowestBandGoesTo9() {
        due("step 1", upByBand(1, 0), 50);
        due("step 9", upByBand(9, 0), 50);
        due("step 10", upByBand(10, 0), 0);
    }

    static void promise11NextBandBeginsAt10() {
        due("step 9", upByBand(9, 1), 0);
        due("step 10", upByBand(10, 1), 50);
        due("step 19", upByBand(19, 1), 50);
        due("step 20", upByBand(20, 1), 0);
    }

    static void promise11AboveTheLastBandIsAsOfBand19() {
        due("step 189", upByBand(189, 19), 0);
        due("step 190", upByBand(190, 19), 50);
        due("step 199", upByBand(199, 19), 50);
        due("step 200", upByBand(200, 19), 50);
    }

    // ---- promise 12: "A LINE: its number. BAD, FULL."; "LINES 0 .. 9 .. STEPS (1 .. 200) .. STRENGTH (1 .. 99999) .. w (0 .. 9)"

    static void promise12StepsBelow1AreBad() {
        BridleBook b = new BridleBook();
        due("steps 0", b.line(0, 1, 0), BAD);
        due("steps -1", b.line(-1, 1, 0), BAD);
        due("steps MIN", b.line(MIN, 1, 0), BAD);
        due("steps 1", b.line(1, 1, 0), 0);
    }

    static void promise12StepsAbove200AreBad() {
        BridleBook b = new BridleBook();
        due("steps 201", b.line(201, 1, 0), BAD);
        due("steps MAX", b.line(MAX, 1, 0), BAD);
        due("steps 200", b.line(200, 1, 0), 0);
    }

    static void promise12StrengthBelow1IsBad() {
        BridleBook b = new BridleBook();
        due("strength 0", b.line(1, 0, 0), BAD);
        due("strength -1", b.line(1, -1, 0), BAD);
        due("strength MIN", b.line(1, MIN, 0), BAD);
        due("strength 1", b.line(1, 1, 0), 0);
    }

    static void promise12StrengthAbove99999IsBad() {
        BridleBook b = new BridleBook();
        due("strength 100000", b.line(1, 100000, 0), BAD);
        due("strength MAX", b.line(1, MAX, 0), BAD);
        due("strength 99999", b.line(1, 99999, 0), 0);
    }

    static void promise12WeightBelow0IsBad() {
        BridleBook b = new BridleBook();
        due("weight -1", b.line(1, 1, -1), BAD);
        due("weight MIN", b.line(1, 1, MIN), BAD);
        due("weight 0", b.line(1, 1, 0), 0);
    }

    static void promise12WeightAbove9IsBad() {
        BridleBook b = new BridleBook();
        due("weight 10", b.line(1, 1, 10), BAD);
        due("weight MAX", b.line(1, 1, MAX), BAD);
        due("weight 9", b.line(1, 1, 9), 0);
    }

    static void promise12BadChangesNothing() {
        BridleBook b = new BridleBook();
        b.line(0, 1, 0);
        b.line(1, 0, 0);
        b.line(1, 1, 10);
        due("count(1)", b.count(1), 0);
        due("no line 0", b.ofLine(0, 0), VOID);
    }

    static void promise12LastLineIsNumber9() {
        due("the 10th", withLines(9).line(1, 1, 0), 9);
    }

    static void promise12EleventhLineIsFull() {
        BridleBook b = withLines(10);
        due("the 11th", b.line(1, 1, 0), FULL);
        due("the 12th", b.line(1, 1, 0), FULL);
    }

    static void promise12FullChangesNothing() {
        BridleBook b = withLines(10);
        b.line(1, 1, 9);
        due("count(1)", b.count(1), 10);
        due("steps of line 0", b.ofLine(0, 0), 10);
        due("steps of line 9", b.ofLine(9, 0), 10);
        due("no line 10", b.ofLine(10, 0), VOID);
    }

    static void promise12BadIsNamedAheadOfFull() {
        BridleBook b = withLines(10);
        due("steps 0", b.line(0, 1, 0), BAD);
        due("strength 0", b.line(1, 0, 0), BAD);
        due("weight 10", b.line(1, 1, 10), BAD);
    }

    static void promise12LineWithoutStepsStillHasItsNumber() {
        BridleBook b = withLineWithoutSteps();
        due("count(1)", b.count(1), 1);
        due("the next line", b.line(1, 1, 0), 1);
    }

    // ---- promise 13: "how many KITES it has. BAD; NOT: it is tied."; "(1 .. STEPS; each KITE on one LINE at most; several at one STEP)"

    private static BridleBook withKitesAndLines() {
        BridleBook b = withLines(2);
        for (int i = 0; i < 20; i++) {
            b.kite();
        }
        return b;
    }

    static void promise13NoSuchKiteIsBad() {
        BridleBook b = withKitesAndLines();
        due("kite -1", b.tie(-1, 0, 1), BAD);
        due("kite 20", b.tie(20, 0, 1), BAD);
        due("kite MIN", b.tie(MIN, 0, 1), BAD);
        due("kite MAX", b.tie(MAX, 0, 1), BAD);
        due("kite 19", b.tie(19, 0, 1), 1);
    }

    static void promise13NoSuchLineIsBad() {
        BridleBook b = withKitesAndLines();
        due("line -1", b.tie(0, -1, 1), BAD);
        due("line 2", b.tie(0, 2, 1), BAD);
        due("line 10", b.tie(0, 10, 1), BAD);
        due("line MIN", b.tie(0, MIN, 1), BAD);
        due("line MAX", b.tie(0, MAX, 1), BAD);
        due("line 1", b.tie(0, 1, 1), 1);
    }

    static void promise13StepBelow1IsBad() {
        BridleBook b = withKitesAndLines();
        due("step 0", b.tie(0, 0, 0), BAD);
        due("step -1", b.tie(0, 0, -1), BAD);
        due("step MIN", b.tie(0, 0, MIN), BAD);
        due("step 1", b.tie(0, 0, 1), 1);
    }

    static void promise13StepBeyondTheLineIsBad() {
        BridleBook b = withKitesAndLines();
        due("step 11", b.tie(0, 0, 11), BAD);
        due("step MAX", b.tie(0, 0, MAX), BAD);
        due("step 10", b.tie(0, 0, 10), 1);
    }

    static void promise13StepThatPartedOffIsBad() {
        BridleBook b = withKitesAndLines();
        b.turn(0, 1, 1);
        b.cut(0, 1, 6);
        due("step 6", b.tie(0, 1, 6), BAD);
        due("step 5", b.tie(0, 1, 5), 1);
    }

    static void promise13LineWithoutStepsIsBad() {
        BridleBook b = withLineWithoutSteps();
        b.kite();
        due("step 0", b.tie(0, 0, 0), BAD);
        due("step 1", b.tie(0, 0, 1), BAD);
    }

    static void promise13BadChangesNothing() {
        BridleBook b = withKitesAndLines();
        b.tie(0, 0, 0);
        b.tie(0, 0, 11);
        b.tie(0, 2, 1);
        due("count(6)", b.count(6), 0);
        due("untie", b.untie(0), NOT);
    }

    static void promise13TiedIsNot() {
        BridleBook b = withKitesAndLines();
        b.tie(0, 0, 5);
        due("to the same step", b.tie(0, 0, 5), NOT);
        due("to another step", b.tie(0, 0, 6), NOT);
        due("to another line", b.tie(0, 1, 5), NOT);
    }

    static void promise13NotChangesNothing() {
        BridleBook b = withPull(50, 0);
        b.line(10, 99999, 0);
        b.line(10, 99999, 0);
        b.tie(0, 0, 5);
        b.tie(0, 0, 10);
        b.tie(0, 1, 10);
        due("UP of step 5", b.step(0, 5, 1), 50);
        due("UP of step 6", b.step(0, 6, 1), 0);
        due("KITES of line 1", b.ofLine(1, 1), 0);
        due("its line", b.untie(0), 0);
    }

    static void promise13BadIsNamedAheadOfNot() {
        BridleBook b = withKitesAndLines();
        b.tie(0, 0, 5);
        due("step 0", b.tie(0, 0, 0), BAD);
        due("step 11", b.tie(0, 1, 11), BAD);
        due("line 2", b.tie(0, 2, 5), BAD);
    }

    static void promise13SeveralKitesAtOneStep() {
        BridleBook b = withKitesAndLines();
        for (int k = 0; k < 20; k++) {
            due("kite " + k, b.tie(k, 0, 10), k + 1);
        }
    }

    static void promise13CountsTheKitesOfThatLineAlone() {
        BridleBook b = withKitesAndLines();
        b.tie(0, 0, 1);
        b.tie(1, 0, 1);
        due("line 1", b.tie(2, 1, 1), 1);
    }

    static void promise13UntiedKiteMayBeTiedAgain() {
        BridleBook b = withKitesAndLines();
        b.tie(0, 0, 1);
        b.untie(0);
        due("to line 1", b.tie(0, 1, 1), 1);
    }

    // ---- promise 14: "A KITE is untied: the LINE. BAD, NOT."

    static void promise14NoSuchKiteIsBad() {
        BridleBook b = withKitesAndLines();
        due("kite -1", b.untie(-1), BAD);
        due("kite 20", b.untie(20), BAD);
        due("kite MIN", b.untie(MIN), BAD);
        due("kite MAX", b.untie(MAX), BAD);
        due("kite 19", b.untie(19), NOT);
        due("a kite not yet made", withKites(1).untie(1), BAD);
    }

    static void promise14KiteThatIsNotTiedIsNot() {
        due("never tied", withKites(1).untie(0), NOT);
    }

    static void promise14UntiedTwiceIsNot() {
        BridleBook b = withKitesAndLines();
        b.tie(0, 0, 1);
        due("the line", b.untie(0), 0);
        due("again", b.untie(0), NOT);
        due("KITES", b.ofLine(0, 1), 0);
    }

    static void promise14FirstAndLastLine() {
        BridleBook b = withLines(10);
        b.kite();
        b.kite();
        b.tie(0, 0, 1);
        b.tie(1, 9, 1);
        due("line 0", b.untie(0), 0);
        due("line 9", b.untie(1), 9);
    }

    static void promise14KiteThatPartedOffIsNot() {
        BridleBook b = withPull(50, 0);
        b.line(1, 49, 0);
        b.tie(0, 0, 1);
        b.part(0);
        due("untie", b.untie(0), NOT);
    }

    // ---- promise 15: "how many it has. BAD (also: there is one), FULL."; "KNOTS at STEPS (at most 10)"

    private static BridleBook withTenKnots() {
        BridleBook b = new BridleBook();
        b.line(20, 100, 0);
        b.line(20, 100, 0);
        for (int s = 1; s <= 10; s++) {
            b.weaken(0, s);
        }
        return b;
    }

    static void promise15NoSuchLineIsBad() {
        BridleBook b = withLines(10);
        due("line -1", b.weaken(-1, 1), BAD);
        due("line 10", b.weaken(10, 1), BAD);
        due("line MIN", b.weaken(MIN, 1), BAD);
        due("line MAX", b.weaken(MAX, 1), BAD);
        due("line 9", b.weaken(9, 1), 1);
        due("a line not yet wound out", withLines(1).weaken(1, 1), BAD);
    }

    static void promise15StepBelow1IsBad() {
        BridleBook b = withLines(1);
        due("step 0", b.weaken(0, 0), BAD);
        due("step -1", b.weaken(0, -1), BAD);
        due("step MIN", b.weaken(0, MIN), BAD);
        due("step 1", b.weaken(0, 1), 1);
    }

    static void promise15StepBeyondTheLineIsBad() {
        BridleBook b = withLines(1);
        due("step 11", b.weaken(0, 11), BAD);
        due("step MAX", b.weaken(0, MAX), BAD);
        due("step 10", b.weaken(0, 10), 1);
    }

    static void promise15LineWithoutStepsIsBad() {
        BridleBook b = withLineWithoutSteps();
        due("step 0", b.weaken(0, 0), BAD);
        due("step 1", b.weaken(0, 1), BAD);
    }

    static void promise15WhereThereIsOneIsBad() {
        BridleBook b = withLines(2);
        b.weaken(0, 5);
        due("step 5", b.weaken(0, 5), BAD);
        due("step 4", b.weaken(0, 4), 2);
        due("step 5 of the other line", b.weaken(1, 5), 1);
    }

    static void promise15BadChangesNothing() {
        BridleBook b = withLines(1);
        b.weaken(0, 5);
        b.weaken(0, 5);
        b.weaken(0, 0);
        b.weaken(0, 11);
        due("KNOTS", b.ofLine(0, 2), 1);
        due("weakened once", b.step(0, 5, 5), 74999);
    }

    static void promise15TenthKnotIsTied() {
        BridleBook b = withLines(1);
        for (int s = 1; s <= 10; s++) {
            due("step " + s, b.weaken(0, s), s);
        }
    }

    static void promise15EleventhKnotIsFull() {
        BridleBook b = withTenKnots();
        due("step 11", b.weaken(0, 11), FULL);
        due("step 20", b.weaken(0, 20), FULL);
    }

    static void promise15FullChangesNothing() {
        BridleBook b = withTenKnots();
        b.weaken(0, 11);
        due("KNOTS", b.ofLine(0, 2), 10);
        due("STRENGTH at 11", b.step(0, 11, 5), 100);
        due("STRENGTH at 10", b.step(0, 10, 5), 75);
        due("STRENGTH at 1", b.step(0, 1, 5), 75);
    }

    static void promise15BadIsNamedAheadOfFull() {
        BridleBook b = withTenKnots();
        due("there is one at 1", b.weaken(0, 1), BAD);
        due("there is one at 10", b.weaken(0, 10), BAD);
        due("step 0", b.weaken(0, 0), BAD);
        due("step 21", b.weaken(0, 21), BAD);
    }

    static void promise15OneFullLineLeavesTheOtherRoom() {
        due("line 1", withTenKnots().weaken(1, 1), 1);
    }

    static void promise15KnotsThatPartedOffLeaveRoom() {
        BridleBook b = withLines(1);
        b.line(20, 100, 0);
        for (int s = 1; s <= 10; s++) {
            b.weaken(1, s + 5);
        }
        b.turn(0, 1, 1);
        b.cut(0, 1, 15);
        due("the knot at 15 is off", b.ofLine(1, 2), 9);
        due("room for one", b.weaken(1, 1), 10);
        due("full again", b.weaken(1, 2), FULL);
    }

    // ---- promise 16: "whether it PARTS as it is (1, 0) (4). VOID: BAD."; "(0 without STEPS)"

    static void promise16NoSuchLineIsVoid() {
        BridleBook b = withLines(10);
        due("line -1", b.ofLine(-1, 0), VOID);
        due("line 10", b.ofLine(10, 0), VOID);
        due("line MIN", b.ofLine(MIN, 0), VOID);
        due("line MAX", b.ofLine(MAX, 0), VOID);
        due("line 9", b.ofLine(9, 0), 10);
        due("a line not yet wound out", withLines(1).ofLine(1, 0), VOID);
    }

    static void promise16WhatBeside0To4IsVoid() {
        BridleBook b = withLines(1);
        due("what -1", b.ofLine(0, -1), VOID);
        due("what 5", b.ofLine(0, 5), VOID);
        due("what MIN", b.ofLine(0, MIN), VOID);
        due("what MAX", b.ofLine(0, MAX), VOID);
        due("what 0", b.ofLine(0, 0), 10);
        due("what 4", b.ofLine(0, 4), 0);
    }

    static void promise16LineWithoutSteps() {
        BridleBook b = withLineWithoutSteps();
        for (int what = 0; what <= 4; what++) {
            due("what " + what, b.ofLine(0, what), 0);
        }
    }

    static void promise16LongestAndHeaviestLineLifts() {
        BridleBook b = new BridleBook();
        b.line(200, 99999, 9);
        due("LIFTS", b.ofLine(0, 3), -1800);
    }

    static void promise16LineWithoutKites() {
        BridleBook b = withLines(1);
        for (int what = 1; what <= 4; what++) {
            due("what " + what, b.ofLine(0, what), 0);
        }
    }

    static void promise16AsStrongAsTheForceHolds() {
        BridleBook b = withPull(50, 0);
        b.line(1, 50, 0);
        b.tie(0, 0, 1);
        due("PARTS", b.ofLine(0, 4), 0);
    }

    static void promise16ForceAboveTheStrengthParts() {
        BridleBook b = withPull(50, 0);
        b.line(1, 49, 0);
        b.tie(0, 0, 1);
        due("PARTS", b.ofLine(0, 4), 1);
    }

    static void promise16WhetherItPartsIsOnlyTold() {
        BridleBook b = withPull(50, 0);
        b.line(10, 49, 0);
        b.tie(0, 0, 10);
        b.weaken(0, 10);
        b.ofLine(0, 4);
        due("STEPS", b.ofLine(0, 0), 10);
        due("KITES", b.ofLine(0, 1), 1);
        due("KNOTS", b.ofLine(0, 2), 1);
    }

    static void promise16AllKitesAtTheirGreatest() {
        due("LIFTS", withTwentyOfTheGreatestKites().ofLine(0, 3), 120 * 96059 - 9);
    }

    // ---- promise 17: "Of a STEP of a LINE: 0 ACROSS .. 5 STRENGTH there. VOID: BAD."

    private static BridleBook withTwentyOfTheGreatestKites() {
        BridleBook b = new BridleBook();
        b.table(0, 0, 99);
        b.table(0, 1, 99);
        b.table(1, 0, -99);
        b.wind(0, 99);
        b.line(1, 99999, 9);
        for (int k = 0; k < 20; k++) {
            b.kite();
            for (int p = 0; p < 6; p++) {
                b.panel(k, 99, 99, 0);
            }
            b.tie(k, 0, 1);
        }
        return b;
    }

    static void promise17NoSuchLineIsVoid() {
        BridleBook b = withLines(10);
        due("line -1", b.step(-1, 1, 5), VOID);
        due("line 10", b.step(10, 1, 5), VOID);
        due("line MIN", b.step(MIN, 1, 5), VOID);
        due("line MAX", b.step(MAX, 1, 5), VOID);
        due("line 9", b.step(9, 1, 5), 99999);
        due("a line not yet wound out", withLines(1).step(1, 1, 5), VOID);
    }

    static void promise17StepBelow1IsVoid() {
        BridleBook b = withLines(1);
        for (int what = 0; what <= 5; what++) {
            due("step 0, what " + what, b.step(0, 0, what), VOID);
        }
        due("step -1", b.step(0, -1, 5), VOID);
        due("step MIN", b.step(0, MIN, 5), VOID);
        due("step 1", b.step(0, 1, 5), 99999);
    }

    static void promise17StepBeyondTheLineIsVoid() {
        BridleBook b = withLines(1);
        for (int what = 0; what <= 5; what++) {
            due("step 11, what " + what, b.step(0, 11, what), VOID);
        }
        due("step MAX", b.step(0, MAX, 5), VOID);
        due("step 10", b.step(0, 10, 5), 99999);
    }

    static void promise17StepBeyondTheLongestLineIsVoid() {
        BridleBook b = new BridleBook();
        b.line(200, 1, 1);
        due("step 201", b.step(0, 201, 1), VOID);
        due("step 200", b.step(0, 200, 1), -1);
    }

    static void promise17StepThatPartedOffIsVoid() {
        BridleBook b = withLines(2);
        b.turn(0, 1, 1);
        b.cut(0, 1, 6);
        due("step 6", b.step(1, 6, 5), VOID);
        due("step 5", b.step(1, 5, 5), 99999);
    }

    static void promise17LineWithoutStepsIsVoid() {
        BridleBook b = withLineWithoutSteps();
        due("step 0", b.step(0, 0, 0), VOID);
        due("step 1", b.step(0, 1, 0), VOID);
    }

    static void promise17WhatBeside0To5IsVoid() {
        BridleBook b = withLines(1);
        due("what -1", b.step(0, 1, -1), VOID);
        due("what 6", b.step(0, 1, 6), VOID);
        due("what MIN", b.step(0, 1, MIN), VOID);
        due("what MAX", b.step(0, 1, MAX), VOID);
        due("what 0", b.step(0, 1, 0), 0);
        due("what 5", b.step(0, 1, 5), 99999);
    }

    static void promise17KitesAtTheStepOrFurtherAct() {
        BridleBook b = withPull(40, 30);
        b.line(10, 99999, 0);
        b.tie(0, 0, 5);
        due("ACROSS of 4", b.step(0, 4, 0), 30);
        due("ACROSS of 5", b.step(0, 5, 0), 30);
        due("ACROSS of 6", b.step(0, 6, 0), 0);
        due("UP of 4", b.step(0, 4, 1), 40);
        due("UP of 5", b.step(0, 5, 1), 40);
        due("UP of 6", b.step(0, 6, 1), 0);
    }

    static void promise17KitesOffTheLineDoNotAct() {
        BridleBook b = withPull(40, 30);
        b.kite();
        b.panel(1, 10, 1, 0);
        b.line(10, 99999, 0);
        b.line(10, 99999, 0);
        b.tie(0, 1, 10);
        b.tie(1, 0, 10);
        b.untie(1);
        due("ACROSS of line 0", b.step(0, 1, 0), 0);
        due("UP of line 0", b.step(0, 1, 1), 0);
        due("UP of line 1", b.step(1, 1, 1), 40);
    }

    static void promise17EachStepFromItOnWeighs() {
        BridleBook b = new BridleBook();
        b.line(10, 99999, 9);
        due("UP of 10", b.step(0, 10, 1), -9);
        due("UP of 9", b.step(0, 9, 1), -18);
        due("UP of 1", b.step(0, 1, 1), -90);
    }

    static void promise17KiteAtTheLastStepOfTheLongestLine() {
        BridleBook b = withPull(40, 30);
        b.line(200, 99999, 0);
        b.tie(0, 0, 200);
        due("T of 1", b.step(0, 1, 2), 50);
        due("T of 200", b.step(0, 200, 2), 50);
        due("across", b.step(0, 200, 3), 200 * 60);
        due("HEIGHT", b.step(0, 200, 4), 200 * 80);
    }

    static void promise17RootIsItsWholePart() {
        BridleBook b = withPull(0, 4);
        b.line(1, 99999, 8);
        b.tie(0, 0, 1);
        // 16 + 64 is 80, one less than 9 9
        due("T of 80", b.step(0, 1, 2), 8);
        BridleBook c = withPull(12, 12);
        c.line(1, 99999, 0);
        c.tie(0, 0, 1);
        // 144 + 144 is 288, one less than 17 17
        due("T of 288", c.step(0, 1, 2), 16);
    }

    static void promise17RootOfASquareIsExact() {
        BridleBook b = withPull(4, 3);
        b.line(1, 99999, 0);
        b.tie(0, 0, 1);
        due("T", b.step(0, 1, 2), 5);
    }

    static void promise17RootJustAboveASquare() {
        BridleBook b = withPull(0, 3);
        b.line(1, 99999, 1);
        b.tie(0, 0, 1);
        // 9 + 1 is 10
        due("T", b.step(0, 1, 2), 3);
    }

    static void promise17WithoutForceItGoesNotAtAll() {
        BridleBook b = withLines(1);
        for (int what = 0; what <= 4; what++) {
            due("what " + what, b.step(0, 10, what), 0);
        }
    }

    static void promise17WithoutForceInTheMiddleItStaysThere() {
        BridleBook b = withPull(2, 0);
        b.line(3, 99999, 1);
        b.tie(0, 0, 3);
        // UP is -1, 0, 1
        due("HEIGHT of 1", b.step(0, 1, 4), -100);
        due("T of 2", b.step(0, 2, 2), 0);
        due("HEIGHT of 2", b.step(0, 2, 4), -100);
        due("HEIGHT of 3", b.step(0, 3, 4), 0);
    }

    static void promise17AcrossIsCutToward0() {
        BridleBook b = withPull(0, 1);
        b.line(1, 99999, 3);
        b.tie(0, 0, 1);
        // T is 3, so it goes 33.3 across and 100 down
        due("across", b.step(0, 1, 3), 33);
        due("HEIGHT", b.step(0, 1, 4), -100);
    }

    static void promise17HeightAbove0IsCutToward0() {
        BridleBook b = withPull(2, 3);
        b.line(1, 99999, 0);
        b.tie(0, 0, 1);
        // T is 3 of 3.6: 66.6 up
        due("HEIGHT", b.step(0, 1, 4), 66);
    }

    static void promise17HeightBelow0IsCutToward0() {
        BridleBook b = withPull(0, 3);
        b.line(1, 99999, 1);
        b.tie(0, 0, 1);
        // T is 3: 33.3 down
        due("HEIGHT", b.step(0, 1, 4), -33);
    }

    static void promise17EachStepIsCutByItself() {
        BridleBook b = withPull(2, 3);
        b.line(3, 99999, 0);
        b.tie(0, 0, 3);
        due("three times 66.6", b.step(0, 3, 4), 198);
    }

    static void promise17HeightBelowTheGroundIsToldAsItIs() {
        BridleBook b = new BridleBook();
        b.line(200, 99999, 9);
        due("HEIGHT of 1", b.step(0, 1, 4), -100);
        due("HEIGHT of 200", b.step(0, 200, 4), -20000);
    }

    private static int strengthAtAKnot(int strength) {
        BridleBook b = new BridleBook();
        b.line(1, strength, 0);
        b.weaken(0, 1);
        return b.step(0, 1, 5);
    }

    static void promise17StrengthAtAKnotIsCut() {
        due("1", strengthAtAKnot(1), 0);
        due("2", strengthAtAKnot(2), 1);
        due("3", strengthAtAKnot(3), 2);
        due("4", strengthAtAKnot(4), 3);
        due("99999", strengthAtAKnot(99999), 74999);
    }

    static void promise17KnotWeakensItsOwnStepAlone() {
        BridleBook b = withLines(1);
        b.weaken(0, 5);
        due("step 4", b.step(0, 4, 5), 99999);
        due("step 5", b.step(0, 5, 5), 74999);
        due("step 6", b.step(0, 6, 5), 99999);
    }

    static void promise17TheGreatestForces() {
        BridleBook b = withTwentyOfTheGreatestKites();
        // 11527080 across, 11527071 up: the root of their squares is 16301746.5
        due("ACROSS", b.step(0, 1, 0), 11527080);
        due("UP", b.step(0, 1, 1), 11527071);
        due("T", b.step(0, 1, 2), 16301746);
        due("across", b.step(0, 1, 3), 70);
        due("HEIGHT", b.step(0, 1, 4), 70);
    }

    static void promise17TumblingKitesHangByTheirWeights() {
        BridleBook b = withKites(1);
        b.panel(0, 99, 1, 99);
        b.line(1, 99999, 0);
        b.tie(0, 0, 1);
        for (int a = 0; a < 18; a++) {
            b.table(a, 0, -9);
        }
        due("it tumbles", b.stands(0, 10), NOT);
        due("ACROSS", b.step(0, 1, 0), 0);
        due("UP", b.step(0, 1, 1), -99);
    }

    // ---- promise 18: "It PARTS: the STEP. BAD; NOT: it holds."

    static void promise18NoSuchLineIsBad() {
        BridleBook b = withLines(10);
        due("line -1", b.part(-1), BAD);
        due("line 10", b.part(10), BAD);
        due("line MIN", b.part(MIN), BAD);
        due("line MAX", b.part(MAX), BAD);
        due("line 9", b.part(9), NOT);
        due("a line not yet wound out", withLines(1).part(1), BAD);
    }

    private static BridleBook withTension50(int strength, boolean knotted) {
        BridleBook b = withPull(50, 0);
        b.line(1, strength, 0);
        b.tie(0, 0, 1);
        if (knotted) {
            b.weaken(0, 1);
        }
        return b;
    }

    static void promise18AsStrongAsTheForceHolds() {
        due("50 by 50", withTension50(50, false).part(0), NOT);
        // 3 / 4 of 67 is 50.25
        due("50 by 67 with a knot", withTension50(67, true).part(0), NOT);
    }

    static void promise18ForceAboveTheStrengthParts() {
        due("50 by 49", withTension50(49, false).part(0), 1);
        // 3 / 4 of 66 is 49.5, cut
        due("50 by 66 with a knot", withTension50(66, true).part(0), 1);
    }

    static void promise18NotChangesNothing() {
        BridleBook b = withTension50(50, false);
        b.part(0);
        due("STEPS", b.ofLine(0, 0), 1);
        due("KITES", b.ofLine(0, 1), 1);
    }

    static void promise18WithoutForceItHolds() {
        BridleBook b = new BridleBook();
        b.line(200, 1, 0);
        due("no weight", b.part(0), NOT);
    }

    static void promise18StrengthOf0AtAKnotHoldsWithoutForce() {
        BridleBook b = new BridleBook();
        b.line(1, 1, 0);
        b.weaken(0, 1);
        due("T 0 is not above 0", b.part(0), NOT);
    }

    static void promise18GreatestDifferenceComesFirst() {
        BridleBook b = withPull(50, 0);
        b.line(10, 40, 1);
        b.tie(0, 0, 10);
        // UP of step s is 39 + s: above 40 from 2 on, the greatest at 10
        due("the last", b.part(0), 10);
    }

    static void promise18LeastOfSeveralWithTheSameDifference() {
        BridleBook b = withPull(50, 0);
        b.line(10, 49, 0);
        b.tie(0, 0, 10);
        due("the first", b.part(0), 1);
        BridleBook k = withPull(50, 0);
        k.line(10, 60, 0);
        k.tie(0, 0, 10);
        k.weaken(0, 9);
        k.weaken(0, 3);
        due("the first of two knots", k.part(0), 3);
    }

    static void promise18PartedAtTheFirstStepLeavesNone() {
        BridleBook b = withPull(50, 0);
        b.kite();
        b.line(10, 49, 0);
        b.tie(0, 0, 1);
        b.tie(1, 0, 10);
        b.weaken(0, 10);
        due("the step", b.part(0), 1);
        for (int what = 0; what <= 4; what++) {
            due("what " + what, b.ofLine(0, what), 0);
        }
    }

    static void promise18PartedAtTheLastStepLeavesTheRest() {
        BridleBook b = withPull(50, 0);
        b.line(200, 60, 0);
        b.tie(0, 0, 200);
        b.weaken(0, 200);
        due("the step", b.part(0), 200);
        due("STEPS", b.ofLine(0, 0), 199);
    }

    private static BridleBook withThreeKitesPartedAt5() {
        BridleBook b = withPull(50, 0);
        b.kite();
        b.kite();
        b.line(10, 60, 0);
        b.line(10, 60, 0);
        b.kite();
        b.tie(0, 0, 6);
        b.tie(1, 0, 5);
        b.tie(2, 0, 4);
        b.tie(3, 1, 10);
        b.weaken(0, 5);
        b.weaken(0, 6);
        b.weaken(1, 10);
        b.part(0);
        return b;
    }

    static void promise18KitesAtTheStepAndBeyondAreOff() {
        BridleBook b = withThreeKitesPartedAt5();
        due("STEPS", b.ofLine(0, 0), 4);
        due("kite at 6", b.untie(0), NOT);
        due("kite at 5", b.untie(1), NOT);
    }

    static void promise18KitesBeforeTheStepStay() {
        BridleBook b = withThreeKitesPartedAt5();
        due("KITES", b.ofLine(0, 1), 1);
        due("kite at 4", b.untie(2), 0);
    }

    static void promise18KnotsAtTheStepAndBeyondAreOff() {
        due("KNOTS", withThreeKitesPartedAt5().ofLine(0, 2), 0);
    }

    static void promise18KnotsBeforeTheStepStay() {
        BridleBook b = withPull(55, 0);
        b.line(10, 60, 1);
        b.tie(0, 0, 6);
        b.weaken(0, 7);
        b.weaken(0, 5);
        b.weaken(0, 6);
        // 3 / 4 of 60 is 45: UP is 50 at 6 and 49 at 5
        due("the step", b.part(0), 6);
        due("KNOTS", b.ofLine(0, 2), 1);
        due("STRENGTH at 5", b.step(0, 5, 5), 45);
    }

    static void promise18OtherLinesStayWhole() {
        BridleBook b = withThreeKitesPartedAt5();
        due("STEPS", b.ofLine(1, 0), 10);
        due("KNOTS", b.ofLine(1, 2), 1);
        due("its kite", b.untie(3), 1);
    }

    static void promise18LineWithoutStepsHolds() {
        due("part", withLineWithoutSteps().part(0), NOT);
    }

    static void promise18TurnsStayWhenALineParts() {
        BridleBook b = new BridleBook();
        b.line(1, 1, 9);
        b.line(1, 1, 0);
        b.turn(0, 1, 1);
        b.part(0);
        due("tangled", b.tangled(0, 1), 1);
    }

    // ---- promise 19: "LEAST WIND for a load (0 .. 99999). BAD, NOT. (WINDS stay.)"; "the least v (0 .. 99)"

    private static BridleBook withOneStepLine(int up) {
        BridleBook b = withPull(up, 0);
        b.line(1, 99999, 0);
        b.tie(0, 0, 1);
        return b;
    }

    static void promise19NoSuchLineIsBad() {
        BridleBook b = withLines(10);
        due("line -1", b.least(-1, 0), BAD);
        due("line 10", b.least(10, 0), BAD);
        due("line MIN", b.least(MIN, 0), BAD);
        due("line MAX", b.least(MAX, 0), BAD);
        due("line 9", b.least(9, 0), 0);
        due("a line not yet wound out", withLines(1).least(1, 0), BAD);
    }

    static void promise19LoadBelow0IsBad() {
        BridleBook b = withOneStepLine(50);
        due("load -1", b.least(0, -1), BAD);
        due("load MIN", b.least(0, MIN), BAD);
        due("load 0", b.least(0, 0), 0);
    }

    static void promise19LoadAbove99999IsBad() {
        BridleBook b = withOneStepLine(50);
        due("load 100000", b.least(0, 100000), BAD);
        due("load MAX", b.least(0, MAX), BAD);
        due("load 99999", b.least(0, 99999), NOT);
    }

    static void promise19GreatestLoadThatIsLifted() {
        BridleBook b = withOneStepLine(99);
        b.panel(0, 99, 1, 0);
        b.panel(0, 99, 1, 0);
        b.panel(0, 99, 1, 0);
        // UP is 98745 at 57 and 102240 at 58
        due("load 98745", b.least(0, 98745), 57);
        due("load 99999", b.least(0, 99999), 58);
    }

    static void promise19LiftsThatAreTheLoadAreEnough() {
        BridleBook b = withOneStepLine(50);
        // UP is v v / 2: 12 at 5, 18 at 6
        due("load 12", b.least(0, 12), 5);
        due("load 13", b.least(0, 13), 6);
        due("load 18", b.least(0, 18), 6);
    }

    static void promise19LeastWindOfAllIs0() {
        due("load 0", withOneStepLine(50).least(0, 0), 0);
    }

    static void promise19GreatestWindOfAllIs99() {
        BridleBook b = withOneStepLine(50);
        // UP is 4802 at 98 and 4900 at 99
        due("load 4802", b.least(0, 4802), 98);
        due("load 4803", b.least(0, 4803), 99);
        due("load 4900", b.least(0, 4900), 99);
        due("load 4901", b.least(0, 4901), NOT);
    }

    static void promise19NoneIsNot() {
        BridleBook b = new BridleBook();
        b.line(1, 99999, 1);
        due("load 0", b.least(0, 0), NOT);
        b.line(1, 99999, 0);
        due("load 1", b.least(1, 1), NOT);
    }

    static void promise19LineWithoutStepsLiftsNothing() {
        BridleBook b = withLineWithoutSteps();
        due("load 0", b.least(0, 0), 0);
        due("load 1", b.least(0, 1), NOT);
    }

    static void promise19TheWindIsTheSameInAllBands() {
        BridleBook b = withPull(50, 0);
        b.line(200, 99999, 0);
        b.tie(0, 0, 200);
        for (int h = 0; h < 20; h++) {
            b.wind(h, 0);
        }
        due("load 12", b.least(0, 12), 5);
    }

    static void promise19WindsStay() {
        BridleBook b = withOneStepLine(50);
        b.wind(0, 7);
        b.least(0, 4900);
        b.least(0, 99999);
        due("band 0", b.wind(0, 0), 7);
        for (int h = 1; h < 20; h++) {
            due("band " + h, b.wind(h, 0), 10);
        }
    }
}
