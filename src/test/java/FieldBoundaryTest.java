/** Promises 20 to 26: a test of its own for each boundary case of the field and its flyers. */
public final class FieldBoundaryTest extends BoundaryTests {
    public static void main(String[] args) {
        runAll(FieldBoundaryTest.class, 20, 26);
    }

    /** Flyer 0 at a place with a line of so many steps. */
    private static BridleBook withFlyer(int x, int y, int steps) {
        BridleBook b = new BridleBook();
        addFlyer(b, x, y, steps);
        return b;
    }

    private static void addFlyer(BridleBook b, int x, int y, int steps) {
        b.flyer(place(x, y), b.line(steps, 99999, 0));
    }

    /** Ten flyers far from one another, all with lines of one step. */
    private static BridleBook withTenFlyers() {
        BridleBook b = new BridleBook();
        for (int i = 0; i < 10; i++) {
            addFlyer(b, 10 * i, 10 * i, 1);
        }
        return b;
    }

    /** A flyer whose line, parted at its first step, has no steps. */
    private static BridleBook withLineWithoutSteps(int x, int y) {
        BridleBook b = new BridleBook();
        b.line(1, 1, 9);
        b.part(0);
        b.flyer(place(x, y), 0);
        return b;
    }

    // ---- promise 20: "with a LINE that no FLYER has: its number. BAD; NOT; FULL."; "FLYERS 0 .. 9 .. (0 .. 199 each)"

    static void promise20PlaceBelow0IsBad() {
        BridleBook b = withLines(1);
        due("place -1", b.flyer(-1, 0), BAD);
        due("place MIN", b.flyer(MIN, 0), BAD);
        due("place 0", b.flyer(0, 0), 0);
    }

    static void promise20PlaceAbove39999IsBad() {
        BridleBook b = withLines(1);
        due("place 40000", b.flyer(40000, 0), BAD);
        due("place MAX", b.flyer(MAX, 0), BAD);
        due("place 39999", b.flyer(39999, 0), 0);
    }

    static void promise20NoSuchLineIsBad() {
        BridleBook b = withLines(10);
        due("line -1", b.flyer(0, -1), BAD);
        due("line 10", b.flyer(0, 10), BAD);
        due("line MIN", b.flyer(0, MIN), BAD);
        due("line MAX", b.flyer(0, MAX), BAD);
        due("line 9", b.flyer(0, 9), 0);
        due("a line not yet wound out", withLines(1).flyer(0, 1), BAD);
    }

    static void promise20BadChangesNothing() {
        BridleBook b = withLines(1);
        b.flyer(-1, 0);
        b.flyer(40000, 0);
        b.flyer(0, 1);
        due("count(2)", b.count(2), 0);
        due("line 0 is still to be had", b.flyer(0, 0), 0);
    }

    static void promise20LineThatAFlyerHasIsNot() {
        BridleBook b = withLines(2);
        b.flyer(0, 1);
        due("at the same place", b.flyer(0, 1), NOT);
        due("at another place", b.flyer(1, 1), NOT);
        due("the other line", b.flyer(0, 0), 1);
    }

    static void promise20NotChangesNothing() {
        BridleBook b = withFlyer(50, 50, 1);
        b.flyer(place(90, 90), 0);
        due("count(2)", b.count(2), 1);
        due("he is where he was", b.cone(0, place(50, 50)), 1);
        due("not there", b.cone(0, place(90, 90)), 0);
    }

    static void promise20BadIsNamedAheadOfNot() {
        BridleBook b = withFlyer(0, 0, 1);
        due("place -1", b.flyer(-1, 0), BAD);
        due("place 40000", b.flyer(40000, 0), BAD);
    }

    static void promise20TenthFlyerIsNumber9() {
        BridleBook b = withLines(10);
        for (int i = 0; i < 10; i++) {
            due("flyer " + i, b.flyer(0, i), i);
        }
    }

    /** FULL can't come up: when there are ten flyers, each of the ten lines has one, and NOT is named first. */
    static void promise20WithTenFlyersEveryLineIsNot() {
        BridleBook b = withTenFlyers();
        for (int i = 0; i < 10; i++) {
            due("line " + i, b.flyer(0, i), NOT);
        }
        due("line 10", b.flyer(0, 10), BAD);
        due("count(2)", b.count(2), 10);
    }

    static void promise20SeveralFlyersMayStandAtOnePlace() {
        BridleBook b = withLines(2);
        b.flyer(777, 0);
        due("the same place", b.flyer(777, 1), 1);
    }

    static void promise20PlaceIs200TimesXAndY() {
        BridleBook b = withFlyer(0, 199, 1);
        b.blow(0, 0);
        due("(0, 199)", b.cone(0, 199), 1);
        due("(1, 199)", b.cone(0, 399), 1);
        due("(1, 0)", b.cone(0, 200), 0);
    }

    static void promise20LineWithoutStepsMayHaveAFlyer() {
        BridleBook b = new BridleBook();
        b.line(1, 1, 9);
        b.part(0);
        due("flyer", b.flyer(0, 0), 0);
    }

    // ---- promise 21: "10 times SHIFT, and DIRECTION, as they were (2000 at first). BAD. (Who flies flies on.)"

    static void promise21AtFirst2000() {
        due("blow", new BridleBook().blow(1, 1), 2000);
    }

    static void promise21DirectionBelow0IsBad() {
        BridleBook b = new BridleBook();
        due("direction -1", b.blow(-1, 5), BAD);
        due("direction MIN", b.blow(MIN, 5), BAD);
        due("direction 0", b.blow(0, 5), 2000);
    }

    static void promise21DirectionAbove3IsBad() {
        BridleBook b = new BridleBook();
        due("direction 4", b.blow(4, 5), BAD);
        due("direction MAX", b.blow(MAX, 5), BAD);
        due("direction 3", b.blow(3, 5), 2000);
        due("as it was", b.blow(0, 0), 53);
    }

    static void promise21ShiftBelow0IsBad() {
        BridleBook b = new BridleBook();
        due("shift -1", b.blow(1, -1), BAD);
        due("shift MIN", b.blow(1, MIN), BAD);
        due("shift 0", b.blow(1, 0), 2000);
        due("as it was", b.blow(0, 0), 1);
    }

    static void promise21ShiftAbove200IsBad() {
        BridleBook b = new BridleBook();
        due("shift 201", b.blow(1, 201), BAD);
        due("shift MAX", b.blow(1, MAX), BAD);
        due("shift 200", b.blow(1, 200), 2000);
        due("as it was", b.blow(0, 0), 2001);
    }

    static void promise21BadChangesNothing() {
        BridleBook b = new BridleBook();
        b.blow(2, 17);
        b.blow(4, 5);
        b.blow(1, 201);
        b.blow(-1, 5);
        b.blow(1, -1);
        due("as it was", b.blow(0, 0), 172);
    }

    static void promise21WhoFliesFliesOn() {
        BridleBook b = withFlyer(50, 50, 5);
        b.tree(place(49, 50));
        due("flies", b.fly(0, 1), 1);
        b.blow(2, 200);
        due("he may not any more", b.why(0), 1);
        due("he flies on", b.count(3), 1);
    }

    // ---- promise 22: "A TREE: how many. BAD (also: there is one), FULL."; "at most 20"

    private static BridleBook withTrees(int n) {
        BridleBook b = new BridleBook();
        for (int i = 0; i < n; i++) {
            b.tree(100 + i);
        }
        return b;
    }

    static void promise22PlaceBelow0IsBad() {
        BridleBook b = new BridleBook();
        due("place -1", b.tree(-1), BAD);
        due("place MIN", b.tree(MIN), BAD);
        due("place 0", b.tree(0), 1);
    }

    static void promise22PlaceAbove39999IsBad() {
        BridleBook b = new BridleBook();
        due("place 40000", b.tree(40000), BAD);
        due("place MAX", b.tree(MAX), BAD);
        due("place 39999", b.tree(39999), 1);
    }

    static void promise22WhereThereIsOneIsBad() {
        BridleBook b = withTrees(3);
        due("the first", b.tree(100), BAD);
        due("the last", b.tree(102), BAD);
        due("at the side", b.tree(103), 4);
    }

    static void promise22ThereIsNoTreeAtPlace0AtFirst() {
        due("place 0", withTrees(1).tree(0), 2);
    }

    static void promise22BadChangesNothing() {
        BridleBook b = withTrees(1);
        b.tree(100);
        b.tree(-1);
        b.tree(40000);
        due("count(4)", b.count(4), 1);
    }

    static void promise22TwentiethTreeStands() {
        due("the 20th", withTrees(19).tree(0), 20);
    }

    static void promise22TwentyFirstTreeIsFull() {
        BridleBook b = withTrees(20);
        due("the 21st", b.tree(0), FULL);
        due("the 22nd", b.tree(39999), FULL);
    }

    static void promise22FullChangesNothing() {
        BridleBook b = withTrees(20);
        addFlyer(b, 100, 100, 1);
        b.tree(place(100, 100));
        due("count(4)", b.count(4), 20);
        due("no tree there", b.why(0), 0);
    }

    static void promise22BadIsNamedAheadOfFull() {
        BridleBook b = withTrees(20);
        due("the first", b.tree(100), BAD);
        due("the last", b.tree(119), BAD);
        due("place -1", b.tree(-1), BAD);
        due("place 40000", b.tree(40000), BAD);
    }

    static void promise22TreeMayStandWhereAFlyerStands() {
        due("tree", withFlyer(50, 50, 1).tree(place(50, 50)), 1);
    }

    // ---- promise 23: "agreed (1) or not (0): what it was. BAD (also one and the same)."

    static void promise23OneAndTheSameIsBad() {
        BridleBook b = withTenFlyers();
        due("0 and 0, agreed", b.agree(0, 0, 1), BAD);
        due("0 and 0, not", b.agree(0, 0, 0), BAD);
        due("9 and 9", b.agree(9, 9, 1), BAD);
    }

    static void promise23NoSuchFlyerIsBad() {
        BridleBook b = withTenFlyers();
        due("a -1", b.agree(-1, 0, 1), BAD);
        due("b -1", b.agree(0, -1, 1), BAD);
        due("a 10", b.agree(10, 0, 1), BAD);
        due("b 10", b.agree(0, 10, 1), BAD);
        due("a MIN", b.agree(MIN, 0, 1), BAD);
        due("b MAX", b.agree(0, MAX, 1), BAD);
        due("0 and 9", b.agree(0, 9, 1), 0);
    }

    static void promise23FlyerNotYetThereIsBad() {
        BridleBook b = withFlyer(0, 0, 1);
        due("b 1", b.agree(0, 1, 1), BAD);
        due("a 1", b.agree(1, 0, 1), BAD);
    }

    static void promise23IsBeside0And1IsBad() {
        BridleBook b = withTenFlyers();
        due("is -1", b.agree(0, 1, -1), BAD);
        due("is 2", b.agree(0, 1, 2), BAD);
        due("is MIN", b.agree(0, 1, MIN), BAD);
        due("is MAX", b.agree(0, 1, MAX), BAD);
        due("is 1", b.agree(0, 1, 1), 0);
        due("is 0", b.agree(0, 1, 0), 1);
    }

    static void promise23NobodyHasAgreedAtFirst() {
        BridleBook b = withTenFlyers();
        for (int i = 1; i < 10; i++) {
            due("0 and " + i, b.agree(0, i, 0), 0);
        }
    }

    static void promise23BadChangesNothing() {
        BridleBook b = withTenFlyers();
        b.agree(0, 1, 1);
        b.agree(0, 1, 2);
        b.agree(0, 1, -1);
        due("still agreed", b.agree(0, 1, 1), 1);
        b.agree(2, 3, 2);
        due("still not", b.agree(2, 3, 0), 0);
    }

    static void promise23WhatIsToldForTwoHoldsBothWays() {
        BridleBook b = withTenFlyers();
        b.agree(0, 9, 1);
        due("9 and 0", b.agree(9, 0, 0), 1);
        due("0 and 9", b.agree(0, 9, 0), 0);
    }

    static void promise23OtherPairsStayAsTheyWere() {
        BridleBook b = withTenFlyers();
        b.agree(1, 2, 1);
        due("0 and 1", b.agree(0, 1, 0), 0);
        due("0 and 2", b.agree(0, 2, 0), 0);
        due("2 and 3", b.agree(2, 3, 0), 0);
        due("1 and 2", b.agree(1, 2, 0), 1);
    }

    // ---- promise 24: "flies (1) or not (0; at first): 1. BAD; -10 less why he MAY not FLY."

    private static BridleBook withTwoWhoMeet() {
        BridleBook b = withFlyer(50, 50, 5);
        addFlyer(b, 52, 52, 5);
        return b;
    }

    static void promise24NoSuchFlyerIsBad() {
        BridleBook b = withTenFlyers();
        due("flyer -1", b.fly(-1, 1), BAD);
        due("flyer 10", b.fly(10, 1), BAD);
        due("flyer MIN", b.fly(MIN, 0), BAD);
        due("flyer MAX", b.fly(MAX, 0), BAD);
        due("flyer 9", b.fly(9, 1), 1);
        due("a flyer not yet there", withFlyer(0, 0, 1).fly(1, 1), BAD);
    }

    static void promise24IsBeside0And1IsBad() {
        BridleBook b = withFlyer(50, 50, 5);
        due("is -1", b.fly(0, -1), BAD);
        due("is 2", b.fly(0, 2), BAD);
        due("is MIN", b.fly(0, MIN), BAD);
        due("is MAX", b.fly(0, MAX), BAD);
        due("nobody flies", b.count(3), 0);
    }

    static void promise24BadIsNamedAheadOfTheReason() {
        BridleBook b = withFlyer(50, 50, 5);
        b.tree(place(50, 50));
        due("is 2", b.fly(0, 2), BAD);
    }

    static void promise24BadChangesNothing() {
        BridleBook b = withFlyer(50, 50, 5);
        b.fly(0, 1);
        b.fly(0, -1);
        b.fly(0, 2);
        due("he flies on", b.count(3), 1);
    }

    static void promise24NobodyFliesAtFirst() {
        due("count(3)", withTenFlyers().count(3), 0);
    }

    static void promise24TreeInTheWayIsMinus11() {
        BridleBook b = withFlyer(50, 50, 5);
        b.tree(place(50, 50));
        due("fly", b.fly(0, 1), -11);
    }

    static void promise24FlyerInTheWayIsMinus12() {
        BridleBook b = withTwoWhoMeet();
        b.fly(0, 1);
        due("fly", b.fly(1, 1), -12);
    }

    static void promise24TheTreeIsToldFirst() {
        BridleBook b = withTwoWhoMeet();
        b.fly(0, 1);
        b.tree(place(57, 57));
        due("fly", b.fly(1, 1), -11);
    }

    static void promise24RefusedHeDoesNotFly() {
        BridleBook b = withTwoWhoMeet();
        b.fly(0, 1);
        b.fly(1, 1);
        due("count(3)", b.count(3), 1);
        due("the first one may", b.why(0), 0);
    }

    static void promise24RefusedHeFliesOnIfHeFlew() {
        BridleBook b = withFlyer(50, 50, 5);
        b.fly(0, 1);
        b.tree(place(50, 50));
        due("fly", b.fly(0, 1), -11);
        due("count(3)", b.count(3), 1);
    }

    static void promise24NotToFlyIsNeverRefused() {
        BridleBook b = withFlyer(50, 50, 5);
        due("who does not fly", b.fly(0, 0), 1);
        b.fly(0, 1);
        b.tree(place(50, 50));
        due("who may not", b.fly(0, 0), 1);
        due("count(3)", b.count(3), 0);
    }

    static void promise24WhoFliesIsNotInHisOwnWay() {
        BridleBook b = withFlyer(50, 50, 5);
        b.fly(0, 1);
        due("again", b.fly(0, 1), 1);
        due("count(3)", b.count(3), 1);
    }

    static void promise24AllTenMayFly() {
        BridleBook b = withTenFlyers();
        for (int i = 0; i < 10; i++) {
            due("flyer " + i, b.fly(i, 1), 1);
        }
        due("count(3)", b.count(3), 10);
    }

    // ---- promise 25: "Why a FLYER MAY not FLY: 1, 2; 0: he may. BAD."

    static void promise25NoSuchFlyerIsBad() {
        BridleBook b = withTenFlyers();
        due("flyer -1", b.why(-1), BAD);
        due("flyer 10", b.why(10), BAD);
        due("flyer MIN", b.why(MIN), BAD);
        due("flyer MAX", b.why(MAX), BAD);
        due("flyer 9", b.why(9), 0);
        due("a flyer not yet there", withFlyer(0, 0, 1).why(1), BAD);
    }

    static void promise25OnAnEmptyFieldHeMay() {
        due("why", withFlyer(0, 0, 200).why(0), 0);
    }

    private static int whyByTree(int x, int y) {
        BridleBook b = withFlyer(50, 50, 10);
        b.blow(0, 4);
        b.tree(place(x, y));
        return b.why(0);
    }

    static void promise25TreeAtTheConesEdge() {
        due("at the flyer", whyByTree(50, 50), 1);
        due("straight ahead", whyByTree(60, 50), 1);
        due("near, at the one side", whyByTree(50, 46), 1);
        due("near, at the other side", whyByTree(50, 54), 1);
        due("far, at the one side", whyByTree(60, 46), 1);
        due("far, at the other side", whyByTree(60, 54), 1);
    }

    static void promise25TreeJustOutsideTheCone() {
        due("behind", whyByTree(49, 50), 0);
        due("too far ahead", whyByTree(61, 50), 0);
        due("at the one side", whyByTree(55, 45), 0);
        due("at the other side", whyByTree(55, 55), 0);
    }

    static void promise25TheLastTreeCountsToo() {
        BridleBook b = withTrees(19);
        addFlyer(b, 50, 50, 5);
        due("without it", b.why(0), 0);
        b.tree(place(50, 50));
        due("with it", b.why(0), 1);
    }

    static void promise25TheTreeIsNamedFirst() {
        BridleBook b = withTwoWhoMeet();
        b.fly(0, 1);
        due("the flyer", b.why(1), 2);
        b.tree(place(57, 57));
        due("the tree", b.why(1), 1);
    }

    static void promise25WhoDoesNotFlyIsNotInTheWay() {
        due("why", withTwoWhoMeet().why(1), 0);
    }

    static void promise25WhoHasAgreedIsNotInTheWay() {
        BridleBook b = withTwoWhoMeet();
        b.fly(0, 1);
        b.agree(0, 1, 1);
        due("agreed", b.why(1), 0);
        b.agree(1, 0, 0);
        due("not any more", b.why(1), 2);
    }

    static void promise25AgreedWithOneButNotWithTheOther() {
        BridleBook b = withTwoWhoMeet();
        addFlyer(b, 51, 51, 5);
        b.fly(0, 1);
        b.agree(0, 1, 1);
        b.fly(1, 1);
        b.agree(2, 0, 1);
        due("the other one", b.why(2), 2);
        b.agree(2, 1, 1);
        due("both", b.why(2), 0);
    }

    static void promise25FirstAndLastOfTenAreInTheWay() {
        BridleBook b = new BridleBook();
        for (int i = 0; i < 9; i++) {
            addFlyer(b, 10 * i, 10 * i, 1);
        }
        addFlyer(b, 0, 0, 1);
        b.fly(9, 1);
        due("9 for 0", b.why(0), 2);
        b.fly(9, 0);
        b.fly(0, 1);
        due("0 for 9", b.why(9), 2);
    }

    /** Flyer 0, who flies, at (50, 50) with 10 steps; flyer 1 with 3 steps; sidewards 4 at most. */
    private static int whyBeside(int x, int y) {
        BridleBook b = withFlyer(50, 50, 10);
        addFlyer(b, x, y, 3);
        b.blow(0, 4);
        b.fly(0, 1);
        return b.why(1);
    }

    static void promise25OnePlaceInCommonIsEnough() {
        due("his end at the other's place", whyBeside(47, 50), 2);
        due("his place at the other's end", whyBeside(60, 50), 2);
        due("a corner", whyBeside(60, 57), 2);
        due("the corner over there", whyBeside(47, 43), 2);
    }

    static void promise25ConesSideBySideHaveNoPlaceInCommon() {
        due("behind", whyBeside(46, 50), 0);
        due("ahead", whyBeside(61, 50), 0);
        due("at the one side", whyBeside(55, 42), 0);
        due("at the other side", whyBeside(55, 58), 0);
    }

    static void promise25FlyersAtOnePlaceAlwaysMeet() {
        BridleBook b = withLineWithoutSteps(7, 7);
        b.line(1, 1, 9);
        b.part(1);
        b.flyer(place(7, 7), 1);
        b.blow(3, 0);
        b.fly(0, 1);
        due("without steps", b.why(1), 2);
    }

    static void promise25WhyChangesNothing() {
        BridleBook b = withTwoWhoMeet();
        b.fly(0, 1);
        b.why(0);
        b.why(1);
        due("count(3)", b.count(3), 1);
    }

    // ---- promise 26: "1 if a place is in the CONE of a FLYER, else 0. BAD."; "0 to n further .. differ by n at most, and by SHIFT .. at most"

    static void promise26NoSuchFlyerIsBad() {
        BridleBook b = withTenFlyers();
        due("flyer -1", b.cone(-1, 0), BAD);
        due("flyer 10", b.cone(10, 0), BAD);
        due("flyer MIN", b.cone(MIN, 0), BAD);
        due("flyer MAX", b.cone(MAX, 0), BAD);
        due("flyer 9", b.cone(9, place(90, 90)), 1);
        due("a flyer not yet there", withFlyer(0, 0, 1).cone(1, 0), BAD);
    }

    static void promise26PlaceBelow0IsBad() {
        BridleBook b = withFlyer(0, 0, 200);
        due("place -1", b.cone(0, -1), BAD);
        due("place MIN", b.cone(0, MIN), BAD);
        due("place 0", b.cone(0, 0), 1);
    }

    static void promise26PlaceAbove39999IsBad() {
        BridleBook b = withFlyer(0, 0, 200);
        due("place 40000", b.cone(0, 40000), BAD);
        due("place MAX", b.cone(0, MAX), BAD);
        due("place 39999", b.cone(0, 39999), 1);
    }

    /** A place so far ahead and to the right of a flyer at (100, 100) with 10 steps. */
    private static int coneAt(int direction, int shift, int ahead, int right) {
        BridleBook b = withFlyer(100, 100, 10);
        b.blow(direction, shift);
        int[] aheadX = {1, 0, -1, 0};
        int[] aheadY = {0, 1, 0, -1};
        int x = 100 + ahead * aheadX[direction] + right * aheadY[direction];
        int y = 100 + ahead * aheadY[direction] + right * aheadX[direction];
        return b.cone(0, place(x, y));
    }

    static void promise26HisOwnPlaceIsInTheCone() {
        for (int d = 0; d < 4; d++) {
            due("direction " + d, coneAt(d, 0, 0, 0), 1);
        }
    }

    static void promise26NothingBehindHim() {
        for (int d = 0; d < 4; d++) {
            due("direction " + d, coneAt(d, 200, -1, 0), 0);
        }
    }

    static void promise26AsFarAsTheLineHasSteps() {
        for (int d = 0; d < 4; d++) {
            due("10 further, direction " + d, coneAt(d, 200, 10, 0), 1);
            due("11 further, direction " + d, coneAt(d, 200, 11, 0), 0);
        }
    }

    static void promise26SidewardsByTheStepsAtMost() {
        for (int d = 0; d < 4; d++) {
            due("10, direction " + d, coneAt(d, 200, 0, 10), 1);
            due("11, direction " + d, coneAt(d, 200, 0, 11), 0);
            due("-10, direction " + d, coneAt(d, 200, 0, -10), 1);
            due("-11, direction " + d, coneAt(d, 200, 0, -11), 0);
        }
    }

    static void promise26SidewardsByTheShiftAtMost() {
        for (int d = 0; d < 4; d++) {
            due("3, direction " + d, coneAt(d, 3, 10, 3), 1);
            due("4, direction " + d, coneAt(d, 3, 10, 4), 0);
            due("-3, direction " + d, coneAt(d, 3, 10, -3), 1);
            due("-4, direction " + d, coneAt(d, 3, 10, -4), 0);
        }
    }

    static void promise26AtFirstTheWindBlowsByXMore() {
        BridleBook b = withFlyer(100, 100, 10);
        due("x more", b.cone(0, place(110, 100)), 1);
        due("x less", b.cone(0, place(99, 100)), 0);
        due("as far sidewards as the line has steps", b.cone(0, place(110, 90)), 1);
    }

    static void promise26ShiftAsGreatAsTheSteps() {
        due("shift 9, 10 sidewards", coneAt(0, 9, 5, 10), 0);
        due("shift 10, 10 sidewards", coneAt(0, 10, 5, 10), 1);
        due("shift 11, 11 sidewards", coneAt(0, 11, 5, 11), 0);
    }

    static void promise26WithoutShiftStraightAheadAlone() {
        due("straight ahead", coneAt(0, 0, 10, 0), 1);
        due("1 to the right", coneAt(0, 0, 10, 1), 0);
        due("1 to the left", coneAt(0, 0, 10, -1), 0);
    }

    static void promise26ShiftDoesNotShortenTheCone() {
        due("10 further", coneAt(0, 0, 10, 0), 1);
    }

    static void promise26ConeDoesNotGoOnAtTheFieldsOtherSide() {
        BridleBook b = withFlyer(50, 199, 5);
        b.blow(1, 0);
        due("y more than 199", b.cone(0, place(50, 199) + 1), 0);
        b.blow(0, 200);
        due("sidewards, next row", b.cone(0, place(51, 0)), 0);
        BridleBook low = withFlyer(50, 0, 5);
        low.blow(3, 0);
        due("y less than 0", low.cone(0, place(50, 0) - 1), 0);
        low.blow(0, 200);
        due("sidewards, same row", low.cone(0, place(50, 199)), 0);
        BridleBook far = withFlyer(199, 50, 5);
        far.blow(0, 0);
        due("x more than 199", far.cone(0, place(0, 50)), 0);
        BridleBook near = withFlyer(0, 50, 5);
        near.blow(2, 0);
        due("x less than 0", near.cone(0, place(199, 50)), 0);
    }

    static void promise26LongestLineOverTheWholeField() {
        BridleBook b = withFlyer(0, 0, 200);
        due("(199, 199)", b.cone(0, place(199, 199)), 1);
        due("(199, 0)", b.cone(0, place(199, 0)), 1);
        due("(0, 199)", b.cone(0, place(0, 199)), 1);
        b.blow(2, 200);
        due("behind him", b.cone(0, place(1, 0)), 0);
        due("at his side", b.cone(0, place(0, 199)), 1);
    }

    static void promise26LineWithoutStepsHasHisPlaceAlone() {
        BridleBook b = withLineWithoutSteps(50, 50);
        for (int d = 0; d < 4; d++) {
            b.blow(d, 200);
            due("his place", b.cone(0, place(50, 50)), 1);
            due("x more", b.cone(0, place(51, 50)), 0);
            due("x less", b.cone(0, place(49, 50)), 0);
            due("y more", b.cone(0, place(50, 51)), 0);
            due("y less", b.cone(0, place(50, 49)), 0);
        }
    }

    static void promise26ConeGoesByTheStepsThatAreLeft() {
        BridleBook b = withFlyer(50, 50, 10);
        addFlyer(b, 0, 0, 1);
        b.turn(1, 0, 1);
        b.cut(1, 0, 5);
        due("4 further", b.cone(0, place(54, 50)), 1);
        due("5 further", b.cone(0, place(55, 50)), 0);
        due("4 sidewards", b.cone(0, place(50, 54)), 1);
        due("5 sidewards", b.cone(0, place(50, 55)), 0);
    }
}
