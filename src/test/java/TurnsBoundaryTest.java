/** Promises 27 to 32: a test of its own for each boundary case of the turns and of the counts. */
public final class TurnsBoundaryTest extends BoundaryTests {
    public static void main(String[] args) {
        runAll(TurnsBoundaryTest.class, 27, 32);
    }

    /** A row of right turns of lines 0 and 1, in a book of ten lines. */
    private static BridleBook withTurns(int n) {
        BridleBook b = withLines(10);
        for (int i = 0; i < n; i++) {
            b.turn(0, 1, 1);
        }
        return b;
    }

    // ---- promise 27: "how many turns are in the row. BAD (way 1, -1; also one and the same); FULL: 200."

    static void promise27NoSuchLineIsBad() {
        BridleBook b = withLines(10);
        due("a -1", b.turn(-1, 0, 1), BAD);
        due("b -1", b.turn(0, -1, 1), BAD);
        due("a 10", b.turn(10, 0, 1), BAD);
        due("b 10", b.turn(0, 10, 1), BAD);
        due("a MIN", b.turn(MIN, 0, 1), BAD);
        due("b MAX", b.turn(0, MAX, 1), BAD);
        due("9 and 0", b.turn(9, 0, 1), 1);
        due("0 and 9", b.turn(0, 9, 1), 2);
    }

    static void promise27LineNotYetWoundOutIsBad() {
        BridleBook b = withLines(1);
        due("b 1", b.turn(0, 1, 1), BAD);
        due("a 1", b.turn(1, 0, 1), BAD);
    }

    static void promise27OneAndTheSameIsBad() {
        BridleBook b = withLines(10);
        due("0 and 0", b.turn(0, 0, 1), BAD);
        due("9 and 9", b.turn(9, 9, -1), BAD);
    }

    static void promise27WayBeside1AndMinus1IsBad() {
        BridleBook b = withLines(2);
        due("way 0", b.turn(0, 1, 0), BAD);
        due("way 2", b.turn(0, 1, 2), BAD);
        due("way -2", b.turn(0, 1, -2), BAD);
        due("way MIN", b.turn(0, 1, MIN), BAD);
        due("way MAX", b.turn(0, 1, MAX), BAD);
        due("way -1", b.turn(0, 1, -1), 1);
        due("way 1", b.turn(0, 1, 1), 0);
    }

    static void promise27BadChangesNothing() {
        BridleBook b = withTurns(3);
        b.turn(0, 0, 1);
        b.turn(0, 1, 0);
        b.turn(0, 10, 1);
        due("count(5)", b.count(5), 3);
        due("tangled", b.tangled(0, 1), 3);
    }

    static void promise27FirstTurnOfAnEmptyRow() {
        due("right", withLines(2).turn(0, 1, 1), 1);
        due("left", withLines(2).turn(0, 1, -1), 1);
    }

    static void promise27UndoingTheOnlyTurnLeavesNone() {
        BridleBook b = withTurns(1);
        due("left", b.turn(0, 1, -1), 0);
        due("both are gone", b.tangled(0, 1), 0);
        due("left again", b.turn(0, 1, -1), 1);
    }

    static void promise27TheSameTwoLinesInEitherOrder() {
        due("1 and 0", withTurns(1).turn(1, 0, -1), 0);
    }

    static void promise27TheSameWayUndoesNothing() {
        due("right, right", withTurns(1).turn(1, 0, 1), 2);
    }

    static void promise27OtherLinesUndoNothing() {
        due("0 and 2", withTurns(1).turn(0, 2, -1), 2);
        due("2 and 1", withTurns(1).turn(2, 1, -1), 2);
        due("2 and 3", withTurns(1).turn(2, 3, -1), 2);
    }

    static void promise27OnlyRightBehindItIsUndone() {
        BridleBook b = withTurns(1);
        b.turn(2, 3, 1);
        due("another one between", b.turn(0, 1, -1), 3);
    }

    static void promise27WhatComesTogetherMayBeUndoneNext() {
        BridleBook b = withTurns(1);
        b.turn(2, 3, 1);
        due("the inner one", b.turn(2, 3, -1), 1);
        due("the outer one", b.turn(0, 1, -1), 0);
    }

    static void promise27TwoHundredthTurnGoesIn() {
        due("the 200th", withTurns(199).turn(0, 1, 1), 200);
        due("of other lines", withTurns(199).turn(8, 9, -1), 200);
    }

    static void promise27TurnBehind200IsFull() {
        BridleBook b = withTurns(200);
        due("of the same two lines", b.turn(0, 1, 1), FULL);
        due("of others", b.turn(2, 3, 1), FULL);
        due("of others, the other way", b.turn(2, 3, -1), FULL);
        due("with one of them", b.turn(0, 2, -1), FULL);
    }

    static void promise27FullChangesNothing() {
        BridleBook b = withTurns(200);
        b.turn(0, 1, 1);
        b.turn(2, 3, 1);
        due("count(5)", b.count(5), 200);
        due("0 and 1", b.tangled(0, 1), 200);
        due("2 and 3", b.tangled(2, 3), 0);
    }

    static void promise27BadIsNamedAheadOfFull() {
        BridleBook b = withTurns(200);
        due("one and the same", b.turn(0, 0, 1), BAD);
        due("way 0", b.turn(0, 1, 0), BAD);
        due("line 10", b.turn(0, 10, 1), BAD);
    }

    static void promise27UndoingTheLastOf200IsNotFull() {
        BridleBook b = withTurns(200);
        due("left", b.turn(0, 1, -1), 199);
        due("count(5)", b.count(5), 199);
        due("and room for one", b.turn(2, 3, 1), 200);
    }

    static void promise27LineWithoutStepsMayTurn() {
        BridleBook b = withLines(1);
        b.line(1, 1, 9);
        b.part(1);
        due("turn", b.turn(0, 1, 1), 1);
    }

    // ---- promise 28: "Turns of two LINES in the row (right and left ones counted): how many. BAD."

    static void promise28NoSuchLineIsBad() {
        BridleBook b = withLines(10);
        due("a -1", b.tangled(-1, 0), BAD);
        due("b -1", b.tangled(0, -1), BAD);
        due("a 10", b.tangled(10, 0), BAD);
        due("b 10", b.tangled(0, 10), BAD);
        due("a MIN", b.tangled(MIN, 0), BAD);
        due("b MAX", b.tangled(0, MAX), BAD);
        due("0 and 9", b.tangled(0, 9), 0);
        due("a line not yet wound out", withLines(1).tangled(0, 1), BAD);
    }

    static void promise28OneAndTheSameIsBad() {
        BridleBook b = withTurns(3);
        due("0 and 0", b.tangled(0, 0), BAD);
        due("9 and 9", b.tangled(9, 9), BAD);
    }

    static void promise28WithoutTurnsNone() {
        due("an empty row", withTurns(0).tangled(0, 1), 0);
        due("others turned", withTurns(3).tangled(2, 3), 0);
        due("one of them turned", withTurns(3).tangled(0, 2), 0);
    }

    static void promise28RightAndLeftOnesAreCounted() {
        BridleBook b = withTurns(1);
        b.turn(2, 3, 1);
        b.turn(0, 1, -1);
        due("0 and 1", b.tangled(0, 1), 2);
        due("1 and 0", b.tangled(1, 0), 2);
        due("2 and 3", b.tangled(2, 3), 1);
    }

    static void promise28FullRow() {
        due("0 and 1", withTurns(200).tangled(0, 1), 200);
    }

    static void promise28FirstAndLastLine() {
        BridleBook b = withTurns(0);
        b.turn(9, 0, 1);
        b.turn(8, 9, -1);
        due("0 and 9", b.tangled(0, 9), 1);
        due("9 and 8", b.tangled(9, 8), 1);
        due("0 and 8", b.tangled(0, 8), 0);
    }

    static void promise28TurnsTakenBackAreNotCounted() {
        BridleBook b = withTurns(3);
        b.unwind(2);
        due("0 and 1", b.tangled(0, 1), 1);
    }

    // ---- promise 29: "UNDONE for a LINE: how many turns (nothing is undone by this). BAD."

    static void promise29NoSuchLineIsBad() {
        BridleBook b = withTurns(3);
        due("line -1", b.undo(-1), BAD);
        due("line 10", b.undo(10), BAD);
        due("line MIN", b.undo(MIN), BAD);
        due("line MAX", b.undo(MAX), BAD);
        due("line 9", b.undo(9), 0);
        due("a line not yet wound out", withLines(1).undo(1), BAD);
    }

    static void promise29EmptyRowNeedsNone() {
        due("line 0", withTurns(0).undo(0), 0);
    }

    static void promise29FreeLineNeedsNone() {
        due("line 2", withTurns(3).undo(2), 0);
        due("line 9", withTurns(200).undo(9), 0);
    }

    static void promise29FirstTurnOfTheRowNeedsAll() {
        BridleBook b = withTurns(1);
        b.turn(2, 3, 1);
        b.turn(3, 4, 1);
        due("line 0", b.undo(0), 3);
        due("line 1", b.undo(1), 3);
        due("line 2", b.undo(2), 2);
        due("line 3", b.undo(3), 2);
    }

    static void promise29LastTurnOfTheRowNeedsOne() {
        BridleBook b = withTurns(3);
        b.turn(8, 9, 1);
        due("line 9", b.undo(9), 1);
        due("line 8", b.undo(8), 1);
    }

    static void promise29FullRow() {
        BridleBook b = withTurns(199);
        b.turn(1, 2, 1);
        due("line 0", b.undo(0), 200);
        due("line 2", b.undo(2), 1);
    }

    static void promise29NothingIsUndoneByThis() {
        BridleBook b = withTurns(3);
        b.undo(0);
        due("count(5)", b.count(5), 3);
        due("tangled", b.tangled(0, 1), 3);
    }

    static void promise29AsManyUnwoundLeaveTheLineFree() {
        BridleBook b = withTurns(2);
        b.turn(2, 3, 1);
        b.turn(0, 1, -1);
        b.turn(2, 4, 1);
        due("line 2", b.undo(2), 3);
        b.unwind(3);
        due("line 2 then", b.undo(2), 0);
        due("turns left", b.count(5), 2);
    }

    // ---- promise 30: "how many are left. BAD (n 1 .. as many as there are)."

    static void promise30EmptyRowIsBad() {
        due("n 1", withTurns(0).unwind(1), BAD);
        due("n 0", withTurns(0).unwind(0), BAD);
    }

    static void promise30Below1IsBad() {
        BridleBook b = withTurns(3);
        due("n 0", b.unwind(0), BAD);
        due("n -1", b.unwind(-1), BAD);
        due("n MIN", b.unwind(MIN), BAD);
        due("n 1", b.unwind(1), 2);
    }

    static void promise30MoreThanThereAreIsBad() {
        BridleBook b = withTurns(3);
        due("n 4", b.unwind(4), BAD);
        due("n 200", b.unwind(200), BAD);
        due("n MAX", b.unwind(MAX), BAD);
    }

    static void promise30AsManyAsThereAreLeaveNone() {
        due("n 3", withTurns(3).unwind(3), 0);
        due("n 200", withTurns(200).unwind(200), 0);
    }

    static void promise30BeyondAFullRowIsBad() {
        due("n 201", withTurns(200).unwind(201), BAD);
    }

    static void promise30BadChangesNothing() {
        BridleBook b = withTurns(3);
        b.unwind(0);
        b.unwind(4);
        due("count(5)", b.count(5), 3);
    }

    static void promise30TheLastOnesGo() {
        BridleBook b = withTurns(1);
        b.turn(2, 3, 1);
        b.turn(4, 5, 1);
        due("n 1", b.unwind(1), 2);
        due("4 and 5", b.tangled(4, 5), 0);
        due("2 and 3", b.tangled(2, 3), 1);
        due("0 and 1", b.tangled(0, 1), 1);
    }

    static void promise30FullRowHasRoomAgain() {
        BridleBook b = withTurns(200);
        b.unwind(1);
        due("turn", b.turn(2, 3, 1), 200);
        due("full again", b.turn(2, 3, 1), FULL);
    }

    static void promise30NextTurnMayUndoWhatIsLast() {
        BridleBook b = withTurns(1);
        b.turn(2, 3, 1);
        b.unwind(1);
        due("0 and 1, left", b.turn(0, 1, -1), 0);
    }

    // ---- promise 31: "LINE a cuts LINE b at a STEP: turns left in the row. BAD; NOT: they are not TANGLED."

    static void promise31NoSuchLineIsBad() {
        BridleBook b = withTurns(3);
        due("a -1", b.cut(-1, 1, 1), BAD);
        due("b -1", b.cut(0, -1, 1), BAD);
        due("a 10", b.cut(10, 1, 1), BAD);
        due("b 10", b.cut(0, 10, 1), BAD);
        due("a MIN", b.cut(MIN, 1, 1), BAD);
        due("b MAX", b.cut(0, MAX, 1), BAD);
        due("a line not yet wound out", withLines(1).cut(0, 1, 1), BAD);
    }

    static void promise31OneAndTheSameIsBad() {
        BridleBook b = withTurns(3);
        due("0 and 0, tangled with 1", b.cut(0, 0, 1), BAD);
        due("9 and 9, free", b.cut(9, 9, 1), BAD);
    }

    static void promise31StepBelow1IsBad() {
        BridleBook b = withTurns(3);
        due("step 0", b.cut(0, 1, 0), BAD);
        due("step -1", b.cut(0, 1, -1), BAD);
        due("step MIN", b.cut(0, 1, MIN), BAD);
        due("step 1", b.cut(0, 1, 1), 0);
    }

    static void promise31StepBeyondTheLineIsBad() {
        BridleBook b = withTurns(3);
        due("step 11", b.cut(0, 1, 11), BAD);
        due("step MAX", b.cut(0, 1, MAX), BAD);
        due("step 10", b.cut(0, 1, 10), 0);
    }

    /** A long line 0 may cut a short line 1, and the step is one of the line that is cut. */
    static void promise31TheStepIsOfTheLineThatIsCut() {
        BridleBook b = new BridleBook();
        b.line(20, 99999, 0);
        b.line(5, 99999, 0);
        b.turn(0, 1, 1);
        due("0 cuts 1 at 6", b.cut(0, 1, 6), BAD);
        due("1 cuts 0 at 20", b.cut(1, 0, 20), 0);
        due("STEPS of 0", b.ofLine(0, 0), 19);
    }

    static void promise31LineWithoutStepsCannotBeCut() {
        BridleBook b = withTurns(1);
        b.cut(0, 1, 1);
        b.turn(0, 1, 1);
        due("step 0", b.cut(0, 1, 0), BAD);
        due("step 1", b.cut(0, 1, 1), BAD);
        due("but it may cut", b.cut(1, 0, 10), 0);
    }

    static void promise31NotTangledIsNot() {
        due("no turns at all", withTurns(0).cut(0, 1, 1), NOT);
        due("each with others", withTurns(3).cut(0, 2, 1), NOT);
        BridleBook undone = withTurns(1);
        undone.turn(0, 1, -1);
        due("undone", undone.cut(0, 1, 1), NOT);
        BridleBook unwound = withTurns(3);
        unwound.unwind(3);
        due("unwound", unwound.cut(0, 1, 1), NOT);
    }

    static void promise31BadIsNamedAheadOfNot() {
        BridleBook b = withTurns(0);
        due("step 0", b.cut(0, 1, 0), BAD);
        due("step 11", b.cut(0, 1, 11), BAD);
        due("one and the same", b.cut(0, 0, 1), BAD);
    }

    static void promise31RefusedChangesNothing() {
        BridleBook b = withTurns(3);
        b.kite();
        b.tie(0, 1, 10);
        b.cut(0, 1, 11);
        b.cut(0, 1, 0);
        b.cut(1, 1, 1);
        b.cut(2, 1, 1);
        due("STEPS", b.ofLine(1, 0), 10);
        due("KITES", b.ofLine(1, 1), 1);
        due("count(5)", b.count(5), 3);
    }

    static void promise31OneTurnIsTangledEnough() {
        due("right", withTurns(1).cut(0, 1, 5), 0);
        BridleBook left = withTurns(0);
        left.turn(0, 1, -1);
        due("left", left.cut(1, 0, 5), 0);
    }

    static void promise31CutAtTheFirstStepLeavesNone() {
        BridleBook b = withTurns(1);
        b.cut(0, 1, 1);
        due("STEPS", b.ofLine(1, 0), 0);
        due("LIFTS", b.ofLine(1, 3), 0);
    }

    static void promise31CutAtTheLastStepLeavesTheRest() {
        BridleBook b = withTurns(1);
        b.cut(0, 1, 10);
        due("STEPS", b.ofLine(1, 0), 9);
    }

    private static BridleBook withKitesAndKnotsCutAt5() {
        BridleBook b = withTurns(1);
        for (int k = 0; k < 4; k++) {
            b.kite();
        }
        b.tie(0, 1, 4);
        b.tie(1, 1, 5);
        b.tie(2, 1, 6);
        b.tie(3, 0, 10);
        b.weaken(1, 4);
        b.weaken(1, 5);
        b.weaken(1, 6);
        b.weaken(0, 10);
        b.cut(0, 1, 5);
        return b;
    }

    static void promise31KitesAtTheStepAndBeyondAreOff() {
        BridleBook b = withKitesAndKnotsCutAt5();
        due("kite at 5", b.untie(1), NOT);
        due("kite at 6", b.untie(2), NOT);
        due("KITES", b.ofLine(1, 1), 1);
    }

    static void promise31KitesBeforeTheStepStay() {
        due("kite at 4", withKitesAndKnotsCutAt5().untie(0), 1);
    }

    static void promise31KnotsAtTheStepAndBeyondAreOff() {
        due("KNOTS", withKitesAndKnotsCutAt5().ofLine(1, 2), 1);
    }

    static void promise31KnotsBeforeTheStepStay() {
        due("STRENGTH at 4", withKitesAndKnotsCutAt5().step(1, 4, 5), 74999);
    }

    static void promise31TheCuttersLineStaysWhole() {
        BridleBook b = withKitesAndKnotsCutAt5();
        due("STEPS", b.ofLine(0, 0), 10);
        due("KNOTS", b.ofLine(0, 2), 1);
        due("its kite", b.untie(3), 0);
    }

    static void promise31AllTurnsOfTheLineGo() {
        BridleBook b = withTurns(2);
        b.turn(1, 2, 1);
        b.turn(3, 4, 1);
        b.turn(9, 1, -1);
        b.turn(0, 5, 1);
        due("turns left", b.cut(0, 1, 5), 2);
        due("line 1 is free", b.undo(1), 0);
        due("3 and 4", b.tangled(3, 4), 1);
        due("0 and 5", b.tangled(0, 5), 1);
    }

    static void promise31FullRowGoes() {
        BridleBook b = withTurns(200);
        due("turns left", b.cut(0, 1, 1), 0);
        due("room again", b.turn(0, 1, 1), 1);
    }

    static void promise31WhatUndoesItselfThenGoesToo() {
        BridleBook b = withTurns(0);
        b.turn(2, 3, 1);
        b.turn(0, 1, 1);
        b.turn(3, 2, -1);
        due("turns left", b.cut(0, 1, 5), 0);
        due("2 and 3", b.tangled(2, 3), 0);
    }

    static void promise31AgainAndAgain() {
        BridleBook b = withTurns(0);
        b.turn(6, 7, 1);
        b.turn(4, 5, -1);
        b.turn(2, 3, 1);
        b.turn(0, 1, 1);
        b.turn(2, 3, -1);
        b.turn(4, 5, 1);
        b.turn(6, 7, 1);
        // 67+ 45- 23+ 23- 45+ 67+ becomes 67+ 67+
        due("turns left", b.cut(0, 1, 5), 2);
        due("6 and 7", b.tangled(6, 7), 2);
    }

    static void promise31TheSameWaySideBySideStays() {
        BridleBook b = withTurns(0);
        b.turn(2, 3, 1);
        b.turn(0, 1, 1);
        b.turn(2, 3, 1);
        due("turns left", b.cut(0, 1, 5), 2);
    }

    static void promise31TheOrderOfTheRestStays() {
        BridleBook b = withTurns(1);
        b.turn(2, 3, 1);
        b.turn(0, 1, 1);
        b.turn(4, 5, 1);
        b.turn(0, 1, 1);
        b.turn(6, 7, 1);
        b.cut(0, 1, 5);
        due("line 2", b.undo(2), 3);
        due("line 4", b.undo(4), 2);
        due("line 6", b.undo(6), 1);
    }

    // ---- promise 32: "How many: 0 KITES .. 7 LINES that are FREE. BAD."

    static void promise32WhatBeside0To7IsBad() {
        BridleBook b = withTurns(1);
        due("what -1", b.count(-1), BAD);
        due("what 8", b.count(8), BAD);
        due("what MIN", b.count(MIN), BAD);
        due("what MAX", b.count(MAX), BAD);
    }

    static void promise32EverythingIs0AtFirst() {
        BridleBook b = new BridleBook();
        for (int what = 0; what <= 7; what++) {
            due("what " + what, b.count(what), 0);
        }
    }

    static void promise32AtMost20Kites() {
        BridleBook b = withKites(20);
        b.kite();
        due("KITES", b.count(0), 20);
    }

    static void promise32AtMost10Lines() {
        BridleBook b = withLines(10);
        b.line(1, 1, 0);
        due("LINES", b.count(1), 10);
    }

    static void promise32AtMost10FlyersAndAllMayFly() {
        BridleBook b = withLines(10);
        for (int i = 0; i < 10; i++) {
            b.flyer(place(15 * i, 199), i);
            b.fly(i, 1);
        }
        b.flyer(0, 0);
        due("FLYERS", b.count(2), 10);
        due("who fly", b.count(3), 10);
        b.fly(9, 0);
        due("who fly, but for one", b.count(3), 9);
    }

    static void promise32AtMost20Trees() {
        BridleBook b = new BridleBook();
        for (int i = 0; i < 21; i++) {
            b.tree(i);
        }
        due("TREES", b.count(4), 20);
    }

    static void promise32AtMost200Turns() {
        BridleBook b = withTurns(200);
        b.turn(0, 1, 1);
        due("turns", b.count(5), 200);
    }

    static void promise32AllKitesMayBeTied() {
        BridleBook b = withLines(10);
        for (int k = 0; k < 20; k++) {
            b.kite();
            b.tie(k, k % 10, 1);
        }
        due("tied", b.count(6), 20);
        b.untie(0);
        due("tied, but for one", b.count(6), 19);
    }

    static void promise32KitesThatPartedOffAreNotTied() {
        BridleBook b = withTurns(1);
        b.kite();
        b.kite();
        b.tie(0, 1, 1);
        b.tie(1, 1, 10);
        b.cut(0, 1, 2);
        due("tied", b.count(6), 1);
    }

    static void promise32EveryLineIsFreeAtFirst() {
        due("FREE", withLines(10).count(7), 10);
    }

    static void promise32NoLineIsFree() {
        BridleBook b = withTurns(0);
        for (int i = 0; i < 10; i += 2) {
            b.turn(i, i + 1, 1);
        }
        due("FREE", b.count(7), 0);
        b.unwind(1);
        due("8 and 9 are", b.count(7), 2);
    }

    static void promise32LineWithoutStepsIsCounted() {
        BridleBook b = withTurns(1);
        b.cut(0, 1, 1);
        due("LINES", b.count(1), 10);
        due("FREE", b.count(7), 10);
    }

    static void promise32TheLastOf512Calls() {
        BridleBook b = withTurns(0);
        for (int i = 10; i < 511; i++) {
            b.turn(0, 1, 1);
        }
        due("the 512th call", b.count(5), 200);
    }
}
