/** Promises 16 to 19, what there is: the sentences that name a boundary case. */
public final class WhatThereIsTests {
    public static void main(String[] args) {
        Runner.run(WhatThereIsTests.class, 16, 19, args);
    }

    // ==== Promise 16: colour

    // "kind: 0 to 5"; "UNKNOWN"

    static void promise16AKindBelow0(Run x) {
        for (int kind : Run.below(0)) {
            x.colour(kind, 0).isUnknown();
        }
    }

    static void promise16TheKinds0And5(Run x) {
        x.colour(0, 0).is(0);
        x.colour(5, 0).is(5);
    }

    static void promise16AKindAbove5(Run x) {
        for (int kind : Run.above(5)) {
            x.colour(kind, 0).isUnknown();
        }
    }

    // "arm: 0 to 3"; "OUT_OF_RANGE"

    static void promise16AnArmBelow0(Run x) {
        for (int arm : Run.below(0)) {
            x.colour(3, arm).isOutOfRange();
        }
    }

    static void promise16TheArms0And3(Run x) {
        x.colour(2, 0).is(2);
        x.colour(2, 3).is(5);
        x.colour(3, 3).is(0);
    }

    static void promise16AnArmAbove3(Run x) {
        for (int arm : Run.above(3)) {
            x.colour(3, arm).isOutOfRange();
        }
    }

    // "the one that stands first in the @return line is returned"

    static void promise16UnknownGoesBeforeOutOfRange(Run x) {
        x.colour(6, 4).isUnknown();
        x.colour(-1, -1).isUnknown();
    }

    // ==== Promise 17: cell

    // "cell: 0 to 149"; "UNKNOWN"

    static void promise17ACellBelow0(Run x) {
        for (int cell : Run.below(0)) {
            x.cell(cell, 0).isUnknown();
            x.cell(cell, 3).isUnknown();
        }
    }

    static void promise17TheCells0And149(Run x) {
        x.lay(2, 0, 0).is(0);
        x.cell(0, 0).is(0);
        x.cell(149, 0).isNone();
        x.cell(149, 3).is(2);
        x.take(0).is(0);
        x.lay(2, 0, 149).is(0);
        x.cell(149, 0).is(0);
        x.cell(0, 0).isNone();
        x.cell(0, 3).is(2);
    }

    static void promise17ACellAbove149(Run x) {
        for (int cell : Run.above(149)) {
            x.cell(cell, 0).isUnknown();
            x.cell(cell, 3).isUnknown();
        }
    }

    // "what: 0 ... 3"; "OUT_OF_RANGE"

    static void promise17WhatBelow0(Run x) {
        x.lay(0, 0, 0).is(0);
        for (int what : Run.below(0)) {
            x.cell(0, what).isOutOfRange();
            x.cell(77, what).isOutOfRange();
        }
    }

    static void promise17WhatAbove3(Run x) {
        x.lay(0, 0, 0).is(0);
        for (int what : Run.above(3)) {
            x.cell(0, what).isOutOfRange();
            x.cell(77, what).isOutOfRange();
        }
    }

    // "0 for the cross that lies on it (NONE if it is free)"

    static void promise17TheCrosses0And29(Run x) {
        x.coverTheBoard();
        x.cell(0, 0).is(0);
        x.cell(14, 0).is(0);
        x.cell(148, 0).is(29);
        x.cell(149, 0).is(29);
        x.take(29).is(29);
        x.cell(148, 0).isNone();
        x.cell(149, 0).isNone();
    }

    static void promise17NoCrossOnAFreeCell(Run x) {
        x.cell(0, 0).isNone();
        x.lay(0, 0, 0).is(0);
        x.cell(16, 0).isNone();
    }

    // "1 for the direction in which the cell lies from the middle of this cross (4 if it is the middle; NONE ...)"

    static void promise17TheDirection4IsTheMiddle(Run x) {
        x.lay(0, 0, 0).is(0);
        x.cell(0, 1).is(4);
    }

    static void promise17TheDirectionDoesNotTurnWithTheCross(Run x) {
        x.lay(0, 3, 0).is(0);
        x.cell(135, 1).is(0);
        x.cell(1, 1).is(1);
        x.cell(15, 1).is(2);
        x.cell(14, 1).is(3);
    }

    static void promise17NoDirectionOnAFreeCell(Run x) {
        x.cell(0, 1).isNone();
        x.lay(0, 0, 0).is(0);
        x.cell(149, 1).isNone();
    }

    // "2 for the colour of the arm on it (NONE if there is no arm)"

    static void promise17TheColours0And5(Run x) {
        x.lay(5, 0, 0).is(0);
        x.cell(135, 2).is(5);
        x.cell(1, 2).is(0);
    }

    static void promise17NoColourOnTheMiddle(Run x) {
        x.lay(0, 0, 0).is(0);
        x.cell(0, 2).isNone();
    }

    static void promise17NoColourOnAFreeCell(Run x) {
        x.cell(0, 2).isNone();
        x.lay(0, 0, 0).is(0);
        x.cell(16, 2).isNone();
    }

    // "3 for how many cells beside it are free"

    static void promise17FourCellsBesideAreFree(Run x) {
        x.cell(0, 3).is(4);
        x.lay(0, 0, 77).is(0);
        x.cell(80, 3).is(4);
        x.cell(149, 3).is(4);
    }

    static void promise17NoneOfTheCellsBesideAMiddleIsFree(Run x) {
        x.lay(0, 0, 0).is(0);
        x.cell(0, 3).is(0);
    }

    static void promise17NoneOfTheCellsBesideAHoleIsFree(Run x) {
        x.letNothingClash();
        x.fill(0).is(25);
        x.cell(17, 0).isNone();
        x.cell(17, 3).is(0);
    }

    static void promise17TheCellItselfDoesNotCount(Run x) {
        x.lay(0, 0, 0).is(0);
        x.cell(1, 3).is(3);
        x.cell(2, 3).is(3);
        x.cell(16, 3).is(2);
    }

    static void promise17FreeCellsBesideOverTheEdges(Run x) {
        x.lay(0, 0, 0).is(0);
        x.cell(14, 3).is(3);
        x.cell(13, 3).is(3);
        x.cell(149, 3).is(2);
        x.cell(120, 3).is(3);
        x.cell(135, 3).is(3);
    }

    static void promise17AHoleOfFiveCellsInACoveredBoard(Run x) {
        x.letNothingClash();
        x.layAllBut(1, 149);
        x.cell(149, 3).is(4);
        x.cell(135, 3).is(1);
        x.cell(148, 3).is(1);
        x.cell(134, 3).is(1);
        x.cell(14, 3).is(1);
        x.cell(0, 3).is(2);
    }

    // "the one that stands first in the @return line is returned"; NONE "only if no error applies"

    static void promise17UnknownGoesBeforeOutOfRange(Run x) {
        x.cell(150, 4).isUnknown();
        x.cell(-1, -1).isUnknown();
    }

    static void promise17OutOfRangeGoesBeforeNone(Run x) {
        x.cell(77, 4).isOutOfRange();
        x.cell(77, -1).isOutOfRange();
    }

    // ==== Promise 18: cross

    // "cross: a cross"; "UNKNOWN"

    static void promise18ACrossBelow0(Run x) {
        x.lay(0, 0, 0).is(0);
        for (int cross : Run.below(0)) {
            for (int what = 0; what < 7; what++) {
                x.cross(cross, what).isUnknown();
            }
        }
    }

    static void promise18ACrossAboveTheLast(Run x) {
        x.lay(0, 0, 0).is(0);
        for (int cross : Run.above(0)) {
            for (int what = 0; what < 7; what++) {
                x.cross(cross, what).isUnknown();
            }
        }
        x.cross(29, 0).isUnknown();
        x.cross(30, 0).isUnknown();
    }

    static void promise18NoCrossOnTheEmptyBoard(Run x) {
        for (int what = 0; what < 7; what++) {
            x.cross(0, what).isUnknown();
        }
    }

    static void promise18TheCross29AndNot30(Run x) {
        x.coverTheBoard();
        for (int what = 0; what < 7; what++) {
            x.cross(29, what).isAtLeast(0);
            x.cross(30, what).isUnknown();
        }
    }

    // "what: 0 ... 6"; "OUT_OF_RANGE"

    static void promise18WhatBelow0(Run x) {
        x.lay(0, 0, 0).is(0);
        for (int what : Run.below(0)) {
            x.cross(0, what).isOutOfRange();
        }
    }

    static void promise18WhatAbove6(Run x) {
        x.lay(0, 0, 0).is(0);
        for (int what : Run.above(6)) {
            x.cross(0, what).isOutOfRange();
        }
    }

    // "0 for its kind, 1 for its quarter turns, 2 for its middle": the least and the greatest

    static void promise18TheLeastKindTurnsAndMiddle(Run x) {
        x.lay(0, 0, 0).is(0);
        x.cross(0, 0).is(0);
        x.cross(0, 1).is(0);
        x.cross(0, 2).is(0);
    }

    static void promise18TheGreatestKindTurnsAndMiddle(Run x) {
        x.lay(5, 3, 149).is(0);
        x.cross(0, 0).is(5);
        x.cross(0, 1).is(3);
        x.cross(0, 2).is(149);
    }

    // "3 for how many times its arms touch arms of others, 4 for how many other crosses it touches, 5 for how many
    // of its arms touch none"

    static void promise18ACrossAloneTouchesNone(Run x) {
        x.lay(0, 0, 0).is(0);
        x.cross(0, 3).is(0);
        x.cross(0, 4).is(0);
        x.cross(0, 5).is(4);
    }

    static void promise18OneOf30TouchesTwelveTimesFourOthersByAllArms(Run x) {
        x.coverTheBoard();
        for (int cross : new int[] {0, 13, 29}) {
            x.cross(cross, 3).is(12);
            x.cross(cross, 4).is(4);
            x.cross(cross, 5).is(0);
        }
    }

    static void promise18OneTouchOverTheEdgeOfTheColumns(Run x) {
        x.letNothingClash();
        x.lay(0, 0, 0).is(0);
        x.lay(0, 0, 12).is(1);
        for (int cross = 0; cross < 2; cross++) {
            x.cross(cross, 3).is(1);
            x.cross(cross, 4).is(1);
            x.cross(cross, 5).is(3);
        }
    }

    static void promise18OneTouchOverTheEdgeOfTheRows(Run x) {
        x.letNothingClash();
        x.lay(0, 0, 0).is(0);
        x.lay(0, 0, 105).is(1);
        for (int cross = 0; cross < 2; cross++) {
            x.cross(cross, 3).is(1);
            x.cross(cross, 4).is(1);
            x.cross(cross, 5).is(3);
        }
    }

    static void promise18ThreeTouchesOfTwoArmsWithOneOther(Run x) {
        x.letNothingClash();
        x.lay(0, 0, 0).is(0);
        x.lay(0, 0, 133).is(1);
        // Two columns to the left and two rows above; then one row above.
        x.cross(0, 3).is(0);
        x.move(1, 148).is(133);
        x.cross(0, 3).is(3);
        x.cross(0, 4).is(1);
        x.cross(0, 5).is(2);
        x.cross(1, 5).is(2);
    }

    static void promise18ArmsOfFourOthersStraightAway(Run x) {
        x.letNothingClash();
        x.lay(0, 0, 77).is(0);
        x.lay(0, 0, 32).is(1);
        x.lay(0, 0, 80).is(2);
        x.lay(0, 0, 122).is(3);
        x.lay(0, 0, 89).is(4);
        x.cross(0, 3).is(4);
        x.cross(0, 4).is(4);
        x.cross(0, 5).is(0);
        x.cross(4, 4).is(1);
    }

    static void promise18TheAnswersAreTheSameWhenAskedAgain(Run x) {
        x.coverTheBoard();
        for (int again = 0; again < 3; again++) {
            for (int cross = 0; cross < 30; cross++) {
                x.cross(cross, 3).is(12);
                x.cross(cross, 4).is(4);
            }
        }
    }

    // "6 for how many of the 4 ways to turn it (as it is, too) no arms would clash"

    static void promise18AllFourWaysForACrossAlone(Run x) {
        x.lay(0, 0, 0).is(0);
        x.cross(0, 6).is(4);
        x.setRule(1).is(0);
        x.cross(0, 6).is(4);
    }

    static void promise18OneWayIfItIsAsItIsAlone(Run x) {
        x.layAlikePair();
        x.cross(0, 6).is(1);
        x.cross(1, 6).is(1);
    }

    static void promise18OneWayIfItIsTurned(Run x) {
        x.lay(0, 3, 0).is(0);
        // To the right it has the colour 2, and so has the other to the left by its arm 1.
        x.lay(1, 2, 3).is(1);
        x.cross(0, 6).is(1);
        x.cross(1, 6).is(1);
    }

    static void promise18TwoWaysIfTwoArmsAreAlike(Run x) {
        x.layAlikePair();
        x.paint(0, 3, 1).is(3);
        x.cross(0, 6).is(2);
        x.cross(1, 6).is(1);
    }

    static void promise18ThreeWaysUnderRule1(Run x) {
        x.setRule(1).is(0);
        x.lay(0, 0, 0).is(0);
        x.lay(0, 0, 3).is(1);
        x.cross(0, 6).is(3);
        x.cross(1, 6).is(3);
    }

    static void promise18AllFourWaysUnderRule2(Run x) {
        x.setRule(2).is(0);
        x.layAlikePair();
        x.cross(0, 6).is(4);
        x.cross(1, 6).is(4);
    }

    static void promise18TheWaysAreTriedOnAFullBoard(Run x) {
        x.coverTheBoard();
        x.cross(29, 6).is(4);
        x.paintAll(0, 3);
        x.setRule(0).is(2);
        x.cross(29, 6).is(4);
    }

    // "the one that stands first in the @return line is returned"

    static void promise18UnknownGoesBeforeOutOfRange(Run x) {
        x.cross(0, 7).isUnknown();
        x.cross(-1, -1).isUnknown();
    }

    // ==== Promise 19: total

    // "what: 0 ... 10"; "OUT_OF_RANGE"

    static void promise19WhatBelow0(Run x) {
        for (int what : Run.below(0)) {
            x.total(what).isOutOfRange();
        }
    }

    static void promise19WhatAbove10(Run x) {
        for (int what : Run.above(10)) {
            x.total(what).isOutOfRange();
        }
    }

    // "0 for the crosses, 1 for RULE, 2 for free cells"

    static void promise19From0To30Crosses(Run x) {
        x.total(0).is(0);
        x.coverTheBoard();
        x.total(0).is(30);
        x.take(0).is(29);
        x.total(0).is(29);
    }

    static void promise19TheRules0And2(Run x) {
        x.total(1).is(0);
        x.setRule(2).is(0);
        x.total(1).is(2);
    }

    static void promise19From150To0FreeCells(Run x) {
        x.total(2).is(150);
        x.coverTheBoard();
        x.total(2).is(0);
        x.take(17).is(29);
        x.total(2).is(5);
    }

    // "3 for how many times two arms touch, 4 for those of them of like colours"

    static void promise19NoTouches(Run x) {
        x.total(3).is(0);
        x.total(4).is(0);
        x.lay(0, 0, 0).is(0);
        x.total(3).is(0);
        x.total(4).is(0);
    }

    static void promise19EachTouchIsCountedOnce(Run x) {
        x.layAlikePair();
        x.total(3).is(1);
        x.total(4).is(1);
    }

    static void promise19TheTouchesOf30Crosses(Run x) {
        x.coverTheBoard();
        x.total(3).is(180);
        x.paintAll(0, 5);
        x.total(3).is(180);
        x.total(4).is(180);
    }

    static void promise19TouchesOfUnlikeColoursAlone(Run x) {
        x.setRule(1).is(0);
        x.lay(0, 0, 0).is(0);
        x.lay(0, 0, 3).is(1);
        x.lay(0, 0, 12).is(2);
        x.total(3).is(2);
        x.total(4).is(0);
    }

    static void promise19TouchesOverTheEdges(Run x) {
        x.letNothingClash();
        x.lay(0, 0, 0).is(0);
        x.lay(0, 2, 12).is(1);
        x.lay(0, 0, 105).is(2);
        x.total(3).is(2);
        // 3 to the left beside 3 to the right; 0 above beside 2 below.
        x.total(4).is(1);
    }

    // "5 for regions of free cells (cells beside one another are of one region), 6 for the cells of the greatest"

    static void promise19TheEmptyBoardIsOneRegion(Run x) {
        x.total(5).is(1);
        x.total(6).is(150);
    }

    static void promise19NoRegionOnAFullBoard(Run x) {
        x.coverTheBoard();
        x.total(5).is(0);
        x.total(6).is(0);
    }

    static void promise19TheFirstAndTheLastCrossLeaveARegion(Run x) {
        x.coverTheBoard();
        x.take(0).is(29);
        x.total(5).is(1);
        x.total(6).is(5);
        x.undo().is(3);
        x.take(29).is(29);
        x.total(5).is(1);
        x.total(6).is(5);
        // At 68, far from the last one.
        x.take(13).is(28);
        x.total(5).is(2);
        x.total(6).is(5);
    }

    static void promise19RegionsOfOneCell(Run x) {
        x.letNothingClash();
        x.fill(0).is(25);
        x.total(2).is(25);
        x.total(5).is(25);
        x.total(6).is(1);
    }

    static void promise19CellsThatAreDiagonalAreOfTwoRegions(Run x) {
        x.letNothingClash();
        for (int cell : new int[] {50, 82, 110, 78}) {
            x.lay(0, 0, cell);
        }
        x.total(0).is(4);
        // The cell between the four, and the four cells that are diagonal to it.
        x.cell(80, 0).isNone();
        x.cell(64, 0).isNone();
        x.total(5).is(6);
        x.total(6).is(125);
    }

    static void promise19TheCell0AloneIsARegion(Run x) {
        x.letNothingClash();
        x.lay(0, 0, 2).is(0);
        x.lay(0, 0, 30).is(1);
        x.lay(0, 0, 13).is(2);
        x.lay(0, 0, 120).is(3);
        x.cell(0, 0).isNone();
        x.cell(0, 3).is(0);
        // The cells 16, 29, 136 and 149 are closed in, too.
        x.total(5).is(6);
        x.total(6).is(125);
    }

    static void promise19TheCell149AloneIsARegion(Run x) {
        x.letNothingClash();
        x.lay(0, 0, 136).is(0);
        x.lay(0, 0, 29).is(1);
        x.lay(0, 0, 147).is(2);
        x.lay(0, 0, 119).is(3);
        x.cell(149, 0).isNone();
        x.cell(149, 3).is(0);
        x.total(5).is(6);
        x.total(6).is(125);
    }

    /** A ring of five crosses closes the row 5 and touches the rows 4 and 6. */
    static void promise19ARegionGoesOverTheEdgeOfTheRows(Run x) {
        x.letNothingClash();
        for (int column = 0; column < 15; column += 3) {
            x.lay(0, 0, 75 + column).is(column / 3);
        }
        x.total(5).is(1);
        x.total(6).is(125);
        x.shift(0, 5).is(5);
        x.total(5).is(1);
        x.total(6).is(125);
    }

    /** Four crosses close a way round from above to below, about the column 7. */
    static void promise19ARegionGoesOverTheEdgeOfTheColumns(Run x) {
        x.letNothingClash();
        int[] cells = {7, 52, 97, 128};
        for (int cross = 0; cross < 4; cross++) {
            x.lay(0, 0, cells[cross]).is(cross);
        }
        x.total(5).is(1);
        x.total(6).is(130);
        x.shift(8, 0).is(4);
        x.total(5).is(1);
        x.total(6).is(130);
    }

    /** Five crosses close the row 0, and five the row 4; each of them takes a cell of the rows beside these. */
    private static void layTwoRings(Run x) {
        x.letNothingClash();
        for (int i = 0; i < 5; i++) {
            x.lay(0, 0, 3 * i).is(2 * i);
            x.lay(0, 0, 60 + 3 * i).is(2 * i + 1);
        }
        x.total(5).is(2);
    }

    static void promise19TheGreatestRegionIsTheLastOne(Run x) {
        layTwoRings(x);
        // The rows 1 to 3 have 35 free cells, and the rows 5 to 9 have 65.
        x.total(6).is(65);
    }

    static void promise19TheGreatestRegionIsTheFirstOne(Run x) {
        layTwoRings(x);
        x.shift(0, 6).is(10);
        x.total(5).is(2);
        x.total(6).is(65);
    }

    // "7 for groups of crosses that touch, directly or by others, 8 for crosses that touch none"

    static void promise19NoGroupsOnTheEmptyBoard(Run x) {
        x.total(7).is(0);
        x.total(8).is(0);
    }

    static void promise19ACrossAloneIsAGroup(Run x) {
        x.lay(0, 0, 149).is(0);
        x.total(7).is(1);
        x.total(8).is(1);
    }

    static void promise19ThirtyCrossesAreOneGroup(Run x) {
        x.coverTheBoard();
        x.total(7).is(1);
        x.total(8).is(0);
    }

    static void promise19CrossesThatTouchByOthersAreOneGroup(Run x) {
        x.letNothingClash();
        x.lay(0, 0, 0).is(0);
        x.lay(0, 0, 6).is(1);
        x.total(7).is(2);
        x.total(8).is(2);
        x.lay(0, 0, 3).is(2);
        x.total(7).is(1);
        x.total(8).is(0);
    }

    static void promise19CrossesThatTouchOverTheEdgesAreOneGroup(Run x) {
        x.letNothingClash();
        x.lay(0, 0, 0).is(0);
        x.lay(0, 0, 12).is(1);
        x.lay(0, 0, 105).is(2);
        x.total(7).is(1);
        x.total(8).is(0);
    }

    static void promise19CrossesThatAreNearButDoNotTouchAreTwoGroups(Run x) {
        x.lay(0, 0, 0).is(0);
        x.lay(0, 0, 32).is(1);
        x.total(3).is(0);
        x.total(7).is(2);
        x.total(8).is(2);
    }

    static void promise19AGroupOfTwoAndOneAlone(Run x) {
        x.layAlikePair();
        x.lay(2, 0, 77).is(2);
        x.total(7).is(2);
        x.total(8).is(1);
    }

    static void promise19ManyCrossesOfWhichNoTwoTouch(Run x) {
        x.letNothingClash();
        int laid = 0;
        for (int cell = 0; cell < 150; cell++) {
            if (x.reason(0, 0, cell).value() == 0) {
                x.lay(0, 0, cell).is(laid);
                if (x.cross(laid, 3).value() > 0) {
                    x.take(laid).is(laid);
                } else {
                    laid++;
                }
            }
        }
        x.total(0).isAtLeast(5);
        x.total(0).is(laid);
        x.total(7).is(laid);
        x.total(8).is(laid);
    }

    // "9 for the states in the history, 10 for the length of the text"

    static void promise19From0To4States(Run x) {
        x.total(9).is(0);
        for (int i = 0; i < 6; i++) {
            x.shift(0, 0).is(0);
        }
        x.total(9).is(4);
        x.undo().is(3);
        x.total(9).is(3);
    }

    static void promise19From0To60Characters(Run x) {
        x.total(10).is(0);
        for (int length = 1; length <= 60; length++) {
            x.type(' ').is(length);
        }
        x.total(10).is(60);
        x.type(' ').isFull();
        x.total(10).is(60);
        x.clearText().is(60);
        x.total(10).is(0);
    }
}
