/** The sentences under "Terms" that name a boundary case: the board, crosses, clashes, and 512 calls. */
public final class TermsTests {
    /** The arms of a cross at 77, by their directions. */
    private static final int[] ARMS_OF_77 = {62, 78, 92, 76};

    public static void main(String[] args) {
        Runner.run(TermsTests.class, 1, 0, args);
    }

    // "An object is used for at most 512 calls after it has been made; what later calls answer is free."

    static void termsThe512thCallAnswersAsTheFirstOnes(Run x) {
        for (int i = 0; i < 255; i++) {
            x.lay(0, 0, 77).is(0);
            x.take(0).is(0);
        }
        x.lay(5, 3, 149).is(0);
        x.cross(0, 2).is(149);
    }

    // "The board has 15 columns (0 to 14) and 10 rows (0 to 9) of cells"

    static void termsTheBoardHasTheCells0To149(Run x) {
        x.total(2).is(150);
        x.cell(-1, 3).isUnknown();
        x.cell(0, 3).is(4);
        x.cell(149, 3).is(4);
        x.cell(150, 3).isUnknown();
    }

    // "the cell in the column c and the row r has the number 15 * r + c"; "The directions are 0 up, ..."

    static void termsTheCellsBesideACellFarFromTheEdges(Run x) {
        x.lay(0, 0, 77).is(0);
        x.cell(77, 1).is(4);
        for (int direction = 0; direction < 4; direction++) {
            x.cell(ARMS_OF_77[direction], 1).is(direction);
        }
    }

    // "It goes round: to the right of the column 14 is the column 0, below the row 9 is the row 0"

    static void termsToTheRightOfTheColumn14IsTheColumn0(Run x) {
        x.lay(0, 0, 74).is(0);
        x.cell(60, 1).is(1);
        x.cell(75, 0).isNone();
        x.cell(61, 3).is(3);
    }

    static void termsToTheLeftOfTheColumn0IsTheColumn14(Run x) {
        x.lay(0, 0, 60).is(0);
        x.cell(74, 1).is(3);
        x.cell(59, 0).isNone();
        x.cell(73, 3).is(3);
    }

    static void termsBelowTheRow9IsTheRow0(Run x) {
        x.lay(0, 0, 142).is(0);
        x.cell(7, 1).is(2);
        x.cell(22, 3).is(3);
    }

    static void termsAboveTheRow0IsTheRow9(Run x) {
        x.lay(0, 0, 7).is(0);
        x.cell(142, 1).is(0);
        x.cell(127, 3).is(3);
    }

    static void termsTheFirstCellHasCellsBesideItOverBothEdges(Run x) {
        x.lay(0, 0, 0).is(0);
        x.cell(135, 1).is(0);
        x.cell(1, 1).is(1);
        x.cell(15, 1).is(2);
        x.cell(14, 1).is(3);
        x.total(2).is(145);
    }

    static void termsTheLastCellHasCellsBesideItOverBothEdges(Run x) {
        x.lay(0, 0, 149).is(0);
        x.cell(134, 1).is(0);
        x.cell(135, 1).is(1);
        x.cell(14, 1).is(2);
        x.cell(148, 1).is(3);
        x.total(2).is(145);
    }

    // "at first the arm a of the kind k has the colour (k + a) modulo 6"

    static void termsTheFirstColoursGoRoundAt6(Run x) {
        int[][] colours = {{0, 1, 2, 3}, {1, 2, 3, 4}, {2, 3, 4, 5}, {3, 4, 5, 0}, {4, 5, 0, 1}, {5, 0, 1, 2}};
        for (int kind = 0; kind < 6; kind++) {
            for (int arm = 0; arm < 4; arm++) {
                x.colour(kind, arm).is(colours[kind][arm]);
            }
        }
    }

    // "A cross lies on five cells: its middle, and the cell beside it in each direction"

    static void termsACrossLiesOnFiveCellsAlone(Run x) {
        x.lay(0, 0, 77).is(0);
        int owned = 0;
        for (int cell = 0; cell < 150; cell++) {
            owned += x.cell(cell, 0).value() == 0 ? 1 : 0;
        }
        x.total(2).is(150 - owned);
        x.total(2).is(145);
        for (int diagonal : new int[] {61, 63, 91, 93}) {
            x.cell(diagonal, 0).isNone();
        }
    }

    // "turned by q quarter turns (0 to 3), has in the direction d the arm (d - q) modulo 4"

    static void termsTheArmsOfATurnedCrossGoRoundAt4(Run x) {
        int[][] shown = {{2, 3, 4, 5}, {5, 2, 3, 4}, {4, 5, 2, 3}, {3, 4, 5, 2}};
        for (int turns = 0; turns < 4; turns++) {
            x.lay(2, turns, 77).is(0);
            for (int direction = 0; direction < 4; direction++) {
                x.cell(ARMS_OF_77[direction], 2).is(shown[turns][direction]);
            }
            x.take(0).is(0);
        }
    }

    // "There are at most 30 crosses"

    static void termsThereCanBe30Crosses(Run x) {
        x.coverTheBoard();
        x.total(0).is(30);
        x.cross(29, 1).is(0);
        x.cross(30, 1).isUnknown();
    }

    static void termsThereAreNeverMoreThan30Crosses(Run x) {
        x.coverTheBoard();
        x.lay(0, 0, 0).isNotPossible();
        x.fill(0).isNone();
        x.performed("+00@0").isNotPossible();
        x.total(0).is(30);
        x.take(29).is(29);
        x.performed("+00@148;+00@0").isNotPossible();
        x.total(0).is(29);
        x.performed("+00@148").is(1);
        x.total(0).is(30);
    }

    // "numbered from 0 in the order in which they were laid"

    static void termsCrossesHaveNumbersByTheirOrderAndNotByTheirCells(Run x) {
        x.letNothingClash();
        x.lay(0, 0, 100).is(0);
        x.lay(0, 0, 50).is(1);
        x.lay(0, 0, 149).is(2);
        x.cross(0, 2).is(100);
        x.cross(1, 2).is(50);
        x.cross(2, 2).is(149);
        x.cell(50, 0).is(1);
    }

    static void termsACrossThatIsLaidAfterOneWasTakenAwayIsTheLast(Run x) {
        layThree(x);
        x.take(0).is(2);
        x.lay(3, 0, 0).is(2);
        x.cross(2, 0).is(3);
    }

    // "when one is taken away, the numbers of those behind it become less by 1"

    static void termsTheFirstOfThreeIsTakenAway(Run x) {
        layThree(x);
        x.take(0).is(2);
        x.cross(0, 0).is(1);
        x.cross(1, 0).is(2);
        x.cross(2, 0).isUnknown();
        x.cell(5, 0).is(0);
        x.cell(10, 0).is(1);
        x.cell(0, 0).isNone();
    }

    static void termsTheMiddleOneOfThreeIsTakenAway(Run x) {
        layThree(x);
        x.take(1).is(2);
        x.cross(0, 0).is(0);
        x.cross(1, 0).is(2);
        x.cross(1, 1).is(3);
        x.cross(1, 2).is(10);
        x.cross(2, 0).isUnknown();
        x.cell(0, 0).is(0);
        x.cell(10, 0).is(1);
        x.cell(5, 0).isNone();
    }

    static void termsTheLastOfThreeIsTakenAway(Run x) {
        layThree(x);
        x.take(2).is(2);
        x.cross(0, 0).is(0);
        x.cross(1, 0).is(1);
        x.cross(2, 0).isUnknown();
        x.cell(10, 0).isNone();
    }

    /** Kinds 0, 1 and 2, turned by 1, 2 and 3, at 0, 5 and 10; they do not touch. */
    private static void layThree(Run x) {
        x.lay(0, 1, 0).is(0);
        x.lay(1, 2, 5).is(1);
        x.lay(2, 3, 10).is(2);
    }

    // "No cell is under two crosses."

    static void termsNoCellIsUnderTwoCrosses(Run x) {
        x.letNothingClash();
        x.lay(0, 0, 0).is(0);
        for (int cell = 0; cell < 150; cell++) {
            int steps = stepsFrom0(cell);
            x.reason(0, 0, cell).is(steps <= 1 ? 1 : steps == 2 ? 2 : 0);
            if (steps <= 2) {
                x.lay(0, 0, cell).isNotPossible();
            }
        }
        x.total(0).is(1);
    }

    private static int stepsFrom0(int cell) {
        return columnsFrom0(cell) + rowsFrom0(cell);
    }

    private static int columnsFrom0(int cell) {
        return Math.min(cell % 15, 15 - cell % 15);
    }

    private static int rowsFrom0(int cell) {
        return Math.min(cell / 15, 10 - cell / 15);
    }

    // "Two arms of different crosses touch if their cells are beside one another."

    /** Three cells away, straight or not; the cell 0 lies at both edges. */
    static void termsArmsTouchIfTheirCellsAreBesideOneAnother(Run x) {
        x.letNothingClash();
        x.lay(0, 0, 0).is(0);
        x.lay(0, 0, 77).is(1);
        for (int cell = 0; cell < 150; cell++) {
            if (stepsFrom0(cell) > 2 && cell != 77) {
                boolean straight = columnsFrom0(cell) == 0 || rowsFrom0(cell) == 0;
                x.move(1, cell);
                x.cross(1, 3).is(stepsFrom0(cell) > 3 ? 0 : straight ? 1 : 3);
            }
        }
    }

    static void termsArmsTouchOverTheEdgeOfTheColumns(Run x) {
        x.lay(0, 0, 60).is(0);
        x.reason(0, 0, 72).is(3);
        x.reason(0, 2, 72).is(0);
    }

    static void termsArmsTouchOverTheEdgeOfTheRows(Run x) {
        x.lay(0, 0, 7).is(0);
        x.reason(0, 0, 112).is(3);
        x.reason(0, 2, 112).is(0);
    }

    static void termsTheArmsOfOneCrossDoNotTouch(Run x) {
        x.lay(0, 0, 77).is(0);
        x.cross(0, 3).is(0);
        x.total(3).is(0);
        x.paintAll(1, 5);
        x.setRule(1).is(0);
        x.lay(1, 0, 0).is(1);
        x.cross(1, 6).is(4);
    }

    // "(The middle of a cross has its own arms alone beside it.)"

    static void termsTheMiddlesOfAFullBoardHaveTheirOwnArmsBesideThem(Run x) {
        x.coverTheBoard();
        for (int cross = 0; cross < 30; cross++) {
            int middle = x.cross(cross, 2).value();
            int row = middle - middle % 15;
            x.cell(middle, 3).is(0);
            x.cell((middle + 135) % 150, 1).is(0);
            x.cell(row + (middle + 1) % 15, 1).is(1);
            x.cell((middle + 15) % 150, 1).is(2);
            x.cell(row + (middle + 14) % 15, 1).is(3);
        }
    }

    // "Two arms that touch clash by RULE: 0 if their colours are not alike, 1 if they are alike; 2 never."

    static void termsUnderRule0ArmsClashIfTheirColoursAreNotAlike(Run x) {
        x.lay(0, 0, 0).is(0);
        // The right arm there has the colour 1. The arm to the left has the colours 3, 2, 1 and 0.
        x.lay(0, 0, 3).isNotPossible();
        x.lay(0, 1, 3).isNotPossible();
        x.lay(0, 3, 3).isNotPossible();
        x.lay(0, 2, 3).is(1);
        x.total(4).is(1);
    }

    static void termsUnderRule1ArmsClashIfTheirColoursAreAlike(Run x) {
        x.setRule(1).is(0);
        x.lay(0, 0, 0).is(0);
        x.lay(0, 2, 3).isNotPossible();
        x.lay(0, 0, 3).is(1);
        x.take(1).is(1);
        x.lay(0, 1, 3).is(1);
        x.take(1).is(1);
        x.lay(0, 3, 3).is(1);
        x.total(4).is(0);
    }

    static void termsUnderRule2ArmsNeverClash(Run x) {
        x.letNothingClash();
        x.lay(0, 0, 0).is(0);
        for (int turns = 0; turns < 4; turns++) {
            x.lay(0, turns, 3).is(1);
            x.take(1).is(1);
        }
    }

    /** Of three touches one is enough: the upper arm there touches one arm, the left one two. */
    static void termsOneClashOfThreeIsEnough(Run x) {
        x.paintAll(0, 0);
        x.paintAll(1, 0);
        x.lay(0, 0, 0).is(0);
        x.paint(1, 0, 5).is(0);
        x.lay(1, 0, 17).isNotPossible();
        x.paint(1, 0, 0).is(5);
        x.paint(1, 3, 5).is(0);
        x.lay(1, 0, 17).isNotPossible();
        x.paint(1, 3, 0).is(5);
        x.lay(1, 0, 17).is(1);
    }

    // "A method that returns an error or NONE changes nothing.": the methods that are no changes

    static void termsRefusedQuestionsChangeNothing(Run x) {
        x.layAlikePair();
        x.type('k').is(1);
        String before = x.look();
        String cells = x.lookAtCells();
        x.colour(6, 0).isUnknown();
        x.colour(0, 4).isOutOfRange();
        x.cell(150, 0).isUnknown();
        x.cell(0, 4).isOutOfRange();
        x.cell(77, 2).isNone();
        x.cross(2, 0).isUnknown();
        x.cross(0, 7).isOutOfRange();
        x.total(11).isOutOfRange();
        x.reason(6, 0, 0).isUnknown();
        x.reason(0, 4, 0).isOutOfRange();
        x.places(6).isUnknown();
        x.bestPlace(6, 0).isUnknown();
        x.bestPlace(0, 2).isOutOfRange();
        x.shifts(2).isOutOfRange();
        x.shifts(1).isNone();
        x.halfTurn().isNone();
        x.mustLookLike(before);
        x.mustHaveCells(cells);
    }

    // "Nowhere do arms clash."

    static void termsNowhereDoArmsClashUnderRule0(Run x) {
        for (int kind = 0; kind < 6; kind++) {
            x.fill(kind);
            x.total(4).is(x.total(3).value());
        }
        tryMuch(x);
        x.total(3).isAtLeast(1);
        x.total(4).is(x.total(3).value());
    }

    static void termsNowhereDoArmsClashUnderRule1(Run x) {
        x.setRule(1).is(0);
        for (int kind = 0; kind < 6; kind++) {
            x.fill(kind);
            x.total(4).is(0);
        }
        tryMuch(x);
        x.total(3).isAtLeast(1);
        x.total(4).is(0);
    }

    /** Tries each change that could make arms clash. */
    private static void tryMuch(Run x) {
        int crosses = x.total(0).value();
        for (int cross = 0; cross < crosses; cross++) {
            x.turn(cross, 1 + cross % 3);
            x.move(cross, (7 * cross + 3) % 150);
        }
        for (int kind = 0; kind < 6; kind++) {
            x.paint(kind, kind % 4, (kind + 3) % 6);
        }
        x.performed("k00123;k11234;t0");
        x.performed("-0;t15;+21@0");
    }
}
