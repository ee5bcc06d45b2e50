/** Promises 20 to 24, what could be: the sentences that name a boundary case. */
public final class WhatCouldBeTests {
    public static void main(String[] args) {
        Runner.run(WhatCouldBeTests.class, 20, 24, args);
    }

    /** All 30 crosses but one, all arms alike, so that there is one hole, in which a like cross fits. */
    private static void layAlikeBut(Run x, int first, int hole) {
        x.paintAll(0, 0);
        x.layAllBut(first, hole);
    }

    // ==== Promise 20: reason

    // "kind: 0 to 5"; "UNKNOWN"

    static void promise20AKindBelow0(Run x) {
        for (int kind : Run.below(0)) {
            x.reason(kind, 0, 0).isUnknown();
        }
    }

    static void promise20TheKinds0And5(Run x) {
        x.reason(0, 0, 0).is(0);
        x.reason(5, 0, 0).is(0);
        // Beside the right arm of the first, of the colour 0; 5 has it as its arm 1, and 0 as its arm 0.
        x.lay(5, 0, 0).is(0);
        x.reason(5, 2, 3).is(0);
        x.reason(5, 3, 3).is(3);
        x.reason(0, 3, 3).is(0);
        x.reason(0, 2, 3).is(3);
    }

    static void promise20AKindAbove5(Run x) {
        for (int kind : Run.above(5)) {
            x.reason(kind, 0, 0).isUnknown();
        }
    }

    // "turns: 0 to 3"; "OUT_OF_RANGE"

    static void promise20TurnsBelow0(Run x) {
        for (int turns : Run.below(0)) {
            x.reason(0, turns, 0).isOutOfRange();
        }
    }

    static void promise20TheTurns0And3(Run x) {
        x.reason(0, 0, 0).is(0);
        x.reason(0, 3, 0).is(0);
        x.lay(0, 0, 0).is(0);
        x.reason(1, 3, 3).is(0);
        x.reason(1, 0, 3).is(3);
    }

    static void promise20TurnsAbove3(Run x) {
        for (int turns : Run.above(3)) {
            x.reason(0, turns, 0).isOutOfRange();
        }
    }

    // "cell: 0 to 149"; "UNKNOWN"

    static void promise20ACellBelow0(Run x) {
        for (int cell : Run.below(0)) {
            x.reason(0, 0, cell).isUnknown();
        }
    }

    static void promise20TheCells0And149(Run x) {
        x.reason(0, 0, 0).is(0);
        x.reason(0, 0, 149).is(0);
        x.lay(0, 0, 149).is(0);
        x.reason(0, 0, 149).is(1);
        x.reason(0, 0, 0).is(2);
    }

    static void promise20ACellAbove149(Run x) {
        for (int cell : Run.above(149)) {
            x.reason(0, 0, cell).isUnknown();
        }
    }

    // "1 its middle is not free; 2 a cell of its arms is not free; 3 arms would clash; 4 there are 30 crosses"

    static void promise20TheMiddleIsNotFree(Run x) {
        x.lay(0, 0, 0).is(0);
        for (int cell : new int[] {0, 135, 1, 15, 14}) {
            x.reason(0, 0, cell).is(1);
        }
    }

    static void promise20ACellOfOneArmIsNotFree(Run x) {
        x.lay(0, 0, 0).is(0);
        // Straight away by two cells, one arm lies on one arm; diagonal by one cell, two lie on two.
        for (int cell : new int[] {120, 2, 30, 13, 136, 16, 29, 149}) {
            x.reason(0, 0, cell).is(2);
        }
    }

    static void promise20TheMiddleGoesBeforeTheArms(Run x) {
        x.letNothingClash();
        x.lay(0, 0, 0).is(0);
        x.lay(0, 0, 3).is(1);
        // The middle is on the first, and the right arm on the other.
        x.reason(0, 0, 1).is(1);
    }

    static void promise20TheArmsGoBeforeAClash(Run x) {
        x.lay(0, 0, 0).is(0);
        x.lay(0, 0, 5).is(1);
        // At 3 the left arm would clash with the first, and the right arm lies on the left one of the other.
        x.reason(0, 0, 3).is(2);
        x.take(1).is(1);
        x.reason(0, 0, 3).is(3);
    }

    static void promise20AClashByOneArm(Run x) {
        x.lay(0, 0, 0).is(0);
        x.reason(0, 0, 3).is(3);
        x.reason(0, 2, 3).is(0);
        x.setRule(1).is(0);
        x.reason(0, 0, 3).is(0);
        x.reason(0, 2, 3).is(3);
        x.setRule(2).is(1);
        x.reason(0, 0, 3).is(0);
        x.reason(0, 2, 3).is(0);
    }

    static void promise20AClashByEachDirection(Run x) {
        x.lay(0, 0, 77).is(0);
        x.paintAll(1, 5);
        for (int cell : new int[] {32, 80, 122, 89, 46, 48, 106, 108, 60, 64, 90, 94}) {
            x.reason(1, 0, cell).is(3);
        }
        for (int cell : new int[] {17, 81, 137, 88, 45, 49, 105, 109}) {
            x.reason(1, 0, cell).is(0);
        }
    }

    static void promise20With29CrossesTheHoleIsAPlace(Run x) {
        x.letNothingClash();
        x.layAllBut(1, 149);
        x.reason(0, 0, 149).is(0);
        x.reason(5, 3, 149).is(0);
        x.reason(0, 0, 134).is(2);
        x.reason(0, 0, 0).is(1);
    }

    static void promise20With30CrossesNoMiddleIsFree(Run x) {
        x.coverTheBoard();
        for (int cell = 0; cell < 150; cell++) {
            x.reason(0, 0, cell).is(1);
        }
    }

    // "the one that stands first in the @return line is returned"; errors go before the other answers

    static void promise20UnknownGoesBeforeOutOfRange(Run x) {
        x.reason(6, 4, 0).isUnknown();
        x.reason(0, 4, 150).isUnknown();
        x.reason(-1, -1, -1).isUnknown();
    }

    static void promise20ErrorsGoBeforeWhatHinders(Run x) {
        x.lay(0, 0, 0).is(0);
        x.reason(6, 0, 0).isUnknown();
        x.reason(0, 4, 0).isOutOfRange();
        x.reason(0, -1, 2).isOutOfRange();
    }

    // "what could be; nothing changes"

    static void promise20ReasonChangesNothing(Run x) {
        x.lay(0, 0, 0).is(0);
        String before = x.look();
        x.reason(0, 0, 77).is(0);
        x.reason(0, 2, 3).is(0);
        x.reason(0, 0, 0).is(1);
        x.mustLookLike(before);
    }

    // ==== Promise 21: places

    // "kind: 0 to 5"; "UNKNOWN"

    static void promise21AKindBelow0(Run x) {
        for (int kind : Run.below(0)) {
            x.places(kind).isUnknown();
        }
    }

    static void promise21TheKinds0And5(Run x) {
        layAlikeBut(x, 0, 0);
        x.places(0).is(4);
        x.places(5).is(0);
        x.paintAll(5, 0);
        x.places(5).is(4);
    }

    static void promise21AKindAbove5(Run x) {
        for (int kind : Run.above(5)) {
            x.places(kind).isUnknown();
        }
    }

    // "cells and quarter turns for which reason() is 0": all and none of them, the first and the last one

    static void promise21AllOfTheEmptyBoard(Run x) {
        x.places(0).is(600);
        x.places(5).is(600);
    }

    static void promise21NoneWith30Crosses(Run x) {
        x.coverTheBoard();
        x.places(0).is(0);
        x.places(5).is(0);
    }

    static void promise21TheOnlyCellIs0(Run x) {
        x.letNothingClash();
        x.layAllBut(0, 0);
        x.places(2).is(4);
    }

    static void promise21TheOnlyCellIs149(Run x) {
        x.letNothingClash();
        x.layAllBut(1, 149);
        x.places(2).is(4);
    }

    static void promise21NoneIfAllWouldClash(Run x) {
        layAlikeBut(x, 0, 0);
        x.places(1).is(0);
    }

    static void promise21BesideOneCross(Run x) {
        x.letNothingClash();
        x.lay(0, 0, 0).is(0);
        // Thirteen cells are too near for a middle.
        x.places(0).is(4 * 137);
    }

    static void promise21TheQuarterTurnsAreCountedOneByOne(Run x) {
        x.lay(0, 0, 0).is(0);
        x.paintAll(0, 0);
        x.places(0).is(4 * 137);
        // By one arm of another colour, 12 cells near the other have fewer ways: 4 have three, 8 have two.
        x.paintAll(1, 0);
        x.paint(1, 0, 5).is(0);
        x.places(1).is(4 * 125 + 3 * 4 + 2 * 8);
    }

    static void promise21PlacesChangesNothing(Run x) {
        x.lay(0, 0, 0).is(0);
        String before = x.look();
        x.places(0).isAtLeast(1);
        x.mustLookLike(before);
    }

    // ==== Promise 22: bestPlace

    // "kind: 0 to 5"; "UNKNOWN"

    static void promise22AKindBelow0(Run x) {
        for (int kind : Run.below(0)) {
            x.bestPlace(kind, 0).isUnknown();
            x.bestPlace(kind, 1).isUnknown();
        }
    }

    static void promise22TheKinds0And5(Run x) {
        layAlikeBut(x, 0, 0);
        x.bestPlace(0, 0).is(0);
        x.bestPlace(5, 0).isNone();
        x.paintAll(5, 0);
        x.bestPlace(5, 1).is(12);
    }

    static void promise22AKindAbove5(Run x) {
        for (int kind : Run.above(5)) {
            x.bestPlace(kind, 0).isUnknown();
            x.bestPlace(kind, 1).isUnknown();
        }
    }

    // "what: 0 ..., 1 ..."; "OUT_OF_RANGE"

    static void promise22WhatBelow0(Run x) {
        for (int what : Run.below(0)) {
            x.bestPlace(0, what).isOutOfRange();
        }
    }

    static void promise22WhatAbove1(Run x) {
        for (int what : Run.above(1)) {
            x.bestPlace(0, what).isOutOfRange();
        }
    }

    // "at which the cross would touch others the most times"

    static void promise22OfTheEmptyBoardItTouchesNone(Run x) {
        x.bestPlace(3, 0).is(0);
        x.bestPlace(3, 1).is(0);
    }

    static void promise22TheOnlyPlaceTouchesTwelveTimes(Run x) {
        x.letNothingClash();
        x.layAllBut(0, 0);
        x.bestPlace(3, 0).is(0);
        x.bestPlace(3, 1).is(12);
    }

    static void promise22TheOnlyCellIs149(Run x) {
        x.letNothingClash();
        x.layAllBut(1, 149);
        x.bestPlace(3, 0).is(4 * 149);
        x.bestPlace(3, 1).is(12);
    }

    static void promise22TheGreatestPlaceIs599(Run x) {
        // To the right of the cross at 146 is 0, and 5 elsewhere; the kind 0 has 0, 1, 2 and 3.
        x.performed("k15055;+10@146").is(2);
        x.bestPlace(0, 0).is(4 * 149 + 3);
        x.bestPlace(0, 1).is(1);
    }

    static void promise22OneTouchGoesBeforeNoneAtALowerCell(Run x) {
        x.performed("k15055;+10@77").is(2);
        x.reason(0, 0, 0).is(0);
        x.bestPlace(0, 0).is(4 * 80 + 3);
        x.bestPlace(0, 1).is(1);
    }

    static void promise22NoTouchIsBetterThanAClash(Run x) {
        x.paintAll(1, 5);
        x.lay(1, 0, 0).is(0);
        // 0 to 2 are too near to the other; at 3 arms would clash.
        x.bestPlace(0, 0).is(4 * 4);
        x.bestPlace(0, 1).is(0);
    }

    // "of several the one with the lowest cell, of these the one with the fewest quarter turns"

    static void promise22OfSeveralTheLowestCell(Run x) {
        x.letNothingClash();
        x.lay(0, 0, 77).is(0);
        // Three touches at one column and two rows away, and at two columns and one row.
        x.bestPlace(0, 0).is(4 * 46);
        x.bestPlace(0, 1).is(3);
    }

    static void promise22OfSeveralTheLowestCellOverTheEdge(Run x) {
        x.letNothingClash();
        x.lay(0, 0, 148).is(0);
        // At 14, two rows below and one column to the right, over the edge.
        x.bestPlace(0, 0).is(4 * 0);
        x.bestPlace(0, 1).is(3);
    }

    static void promise22OfSeveralWaysToTurnTheFewest(Run x) {
        x.paintAll(1, 2);
        x.paint(0, 0, 2).is(0);
        x.lay(1, 0, 77).is(0);
        // The kind 0 has 2, 1, 2 and 3. It touches best from above, by its lower arm: 2 as it is, and by two.
        x.bestPlace(0, 0).is(4 * 32);
        x.bestPlace(0, 1).is(1);
        x.performed("k01222").is(1);
        // 1, 2, 2 and 2: three touches at 46, by its right and lower arm.
        x.bestPlace(0, 0).is(4 * 46);
        x.performed("k02212").is(1);
        // 2, 2, 1 and 2: by one quarter turn the 1 comes to the left.
        x.bestPlace(0, 0).is(4 * 46 + 1);
    }

    static void promise22AHigherCellWithFewerTurnsIsNotBetter(Run x) {
        // The cross at 77 shows 1 above and 0 below: at 32 the kind 0 fits by one, at 122 as it is.
        x.performed("k11505;+10@77").is(2);
        x.reason(0, 0, 122).is(0);
        x.reason(0, 1, 32).is(0);
        x.bestPlace(0, 0).is(4 * 32 + 1);
    }

    // "NONE if there is no place"; NONE "only if no error applies"

    static void promise22NoneWith30Crosses(Run x) {
        x.coverTheBoard();
        x.bestPlace(0, 0).isNone();
        x.bestPlace(0, 1).isNone();
    }

    static void promise22NoneIfAllWouldClash(Run x) {
        layAlikeBut(x, 0, 0);
        x.bestPlace(1, 0).isNone();
        x.bestPlace(1, 1).isNone();
    }

    static void promise22ErrorsGoBeforeNone(Run x) {
        x.coverTheBoard();
        x.bestPlace(0, 2).isOutOfRange();
        x.bestPlace(0, -1).isOutOfRange();
        x.bestPlace(6, 0).isUnknown();
    }

    static void promise22UnknownGoesBeforeOutOfRange(Run x) {
        x.bestPlace(6, 2).isUnknown();
        x.bestPlace(-1, -1).isUnknown();
    }

    static void promise22BestPlaceChangesNothing(Run x) {
        x.lay(0, 0, 0).is(0);
        String before = x.look();
        x.bestPlace(0, 0).isAtLeast(0);
        x.bestPlace(0, 1).isAtLeast(1);
        x.mustLookLike(before);
    }

    // ==== Promise 23: shifts

    // "what: 0 ..., 1 ..."; "OUT_OF_RANGE"

    static void promise23WhatBelow0(Run x) {
        for (int what : Run.below(0)) {
            x.shifts(what).isOutOfRange();
        }
    }

    static void promise23WhatAbove1(Run x) {
        for (int what : Run.above(1)) {
            x.shifts(what).isOutOfRange();
        }
    }

    // "No shift at all is one of them."; "NONE for what 1 if there is none"

    static void promise23TheEmptyBoardComesUponItselfByAllShifts(Run x) {
        x.shifts(0).is(150);
        x.shifts(1).is(1);
    }

    static void promise23OneCrossComesUponItselfByNoShiftAtAllAlone(Run x) {
        x.paintAll(0, 0);
        x.lay(0, 0, 0).is(0);
        x.shifts(0).is(1);
        x.shifts(1).isNone();
    }

    static void promise23OutOfRangeGoesBeforeNone(Run x) {
        x.lay(0, 0, 0).is(0);
        x.shifts(2).isOutOfRange();
        x.shifts(-1).isOutOfRange();
        x.shifts(1).isNone();
    }

    static void promise23ThirtyCrosses(Run x) {
        x.coverTheBoard();
        x.shifts(0).is(30);
        x.shifts(1).is(5);
        x.turn(29, 1).is(1);
        x.shifts(0).is(1);
        x.shifts(1).isNone();
    }

    static void promise23TwentyNineCrosses(Run x) {
        x.letNothingClash();
        x.layAllBut(1, 149);
        x.shifts(0).is(1);
        x.shifts(1).isNone();
    }

    // "by columns to the right (0 to 14) and rows down (0 to 9)"; "as 15 times the rows plus the columns"

    static void promise23ByColumnsAlone(Run x) {
        x.lay(0, 0, 0).is(0);
        x.lay(0, 0, 5).is(1);
        x.lay(0, 0, 10).is(2);
        x.shifts(0).is(3);
        x.shifts(1).is(5);
    }

    static void promise23ByRowsAlone(Run x) {
        x.lay(0, 0, 0).is(0);
        x.lay(0, 0, 75).is(1);
        x.shifts(0).is(2);
        x.shifts(1).is(75);
    }

    static void promise23ByColumnsAndRows(Run x) {
        for (int i = 0; i < 5; i++) {
            x.lay(0, 0, 15 * ((4 * i) % 10) + 3 * i).is(i);
        }
        // By 3 columns and 4 rows; of the shifts by twice, three and four times that, 9 and 2 is the least.
        x.shifts(0).is(5);
        x.shifts(1).is(39);
    }

    static void promise23TheLeastIsByTheRowsFirst(Run x) {
        for (int row = 0; row < 10; row += 5) {
            for (int column = 0; column < 15; column += 5) {
                x.lay(0, 0, 15 * row + column);
            }
        }
        x.total(0).is(6);
        x.shifts(0).is(6);
        x.shifts(1).is(5);
    }

    static void promise23OverBothEdges(Run x) {
        x.lay(0, 0, 149).is(0);
        x.lay(0, 0, 74).is(1);
        x.shifts(0).is(2);
        x.shifts(1).is(75);
    }

    // "each cross upon one that shows the same colours in the same directions (the kind does not matter)"

    static void promise23AnotherKindTurnedSoThatItShowsTheSame(Run x) {
        // Turned by 3, the kind 1 has in the direction d the arm d + 1 modulo 4.
        x.performed("k13012;+00@0;+13@75").is(3);
        x.shifts(0).is(2);
        x.shifts(1).is(75);
    }

    static void promise23TheSameKindTurnedShowsOthers(Run x) {
        for (int turns = 1; turns < 4; turns++) {
            x.lay(0, 0, 0).is(0);
            x.lay(0, turns, 75).is(1);
            x.shifts(0).is(1);
            x.shifts(1).isNone();
            x.take(0).is(1);
            x.take(0).is(0);
        }
    }

    static void promise23TheSameKindTurnedShowsTheSameIfItsColoursComeAgain(Run x) {
        x.performed("k01212;+00@0;+02@75").is(3);
        x.shifts(0).is(2);
        x.turn(1, 1).is(3);
        x.shifts(0).is(1);
    }

    static void promise23OneArmIsUnlike(Run x) {
        for (int arm = 0; arm < 4; arm++) {
            Run y = x.another();
            y.performed("k10123;+00@0;+10@75").is(3);
            y.shifts(0).is(2);
            y.paint(1, arm, 5).is(arm);
            y.shifts(0).is(1);
        }
    }

    static void promise23AnArmUponAMiddleIsNoCrossUponOne(Run x) {
        x.paintAll(0, 0);
        x.lay(0, 0, 0).is(0);
        x.lay(0, 0, 6).is(1);
        x.lay(0, 0, 11).is(2);
        x.shifts(0).is(1);
    }

    static void promise23ShiftsChangesNothing(Run x) {
        x.lay(0, 0, 0).is(0);
        String before = x.look();
        x.shifts(0).is(1);
        x.shifts(1).isNone();
        x.mustLookLike(before);
    }

    // ==== Promise 24: halfTurn

    // "comes upon itself by some shift"; "Returns the least shift"; "NONE if there is none"

    static void promise24TheEmptyBoardByNoShiftAtAll(Run x) {
        x.halfTurn().is(0);
    }

    static void promise24NoneForOneCrossThatShowsOthersThen(Run x) {
        x.lay(0, 0, 0).is(0);
        x.halfTurn().isNone();
        x.turn(0, 2).is(2);
        x.halfTurn().isNone();
    }

    static void promise24OneCrossOnTheCell0ByNoShiftAtAll(Run x) {
        x.performed("k01212;+00@0").is(2);
        x.halfTurn().is(0);
    }

    static void promise24OneCrossOnTheCell149OverBothEdges(Run x) {
        x.performed("k01212;+01@149").is(2);
        // From (14, 9) to (1, 1), and from there by 13 columns and 8 rows.
        x.halfTurn().is(133);
    }

    static void promise24OneCrossOnTheColumn0OrTheRow0(Run x) {
        x.performed("k01212;+01@4").is(2);
        x.halfTurn().is(8);
        x.move(0, 60).is(4);
        x.halfTurn().is(120);
        x.move(0, 8).is(60);
        x.halfTurn().is(1);
        x.move(0, 75).is(8);
        x.halfTurn().is(0);
    }

    static void promise24ThePairOfDirectionsMustBeAlikeBoth(Run x) {
        x.performed("k01213;+00@0").is(2);
        x.halfTurn().isNone();
        x.performed("k01232;-0;+00@0").is(3);
        x.halfTurn().isNone();
        x.performed("k01232").is(1);
        x.paint(0, 2, 1).is(3);
        x.halfTurn().is(0);
    }

    static void promise24TheGreatestShiftIs149(Run x) {
        // Columns 3 and 11, rows 4 and 5: the sums are 14 and 9.
        x.lay(0, 0, 63).is(0);
        x.lay(0, 2, 86).is(1);
        x.halfTurn().is(149);
    }

    static void promise24EachWayToTurnThePair(Run x) {
        for (int turns = 0; turns < 4; turns++) {
            x.lay(0, turns, 63).is(0);
            x.lay(0, (turns + 2) % 4, 86).is(1);
            x.halfTurn().is(149);
            x.take(0).is(1);
            x.take(0).is(0);
        }
    }

    static void promise24TwoThatShowTheSameDoNotComeUponOneAnother(Run x) {
        x.lay(0, 0, 63).is(0);
        x.lay(0, 0, 86).is(1);
        x.halfTurn().isNone();
        x.turn(1, 1).is(1);
        x.halfTurn().isNone();
        x.turn(1, 2).is(3);
        x.halfTurn().isNone();
    }

    static void promise24OfSeveralTheLeast(Run x) {
        x.performed("k01212;+00@0;+00@75").is(3);
        x.halfTurn().is(0);
        x.shift(0, 4).is(2);
        // The rows are 4 and 9: by 8 each comes upon itself, by 13 modulo 10 upon the other.
        x.halfTurn().is(45);
    }

    // "likewise": the kind does not matter

    static void promise24AnotherKindThatShowsTheSameThen(Run x) {
        x.performed("k12301;+00@63;+10@86").is(3);
        x.halfTurn().is(149);
        x.paint(1, 0, 5).is(2);
        x.halfTurn().isNone();
    }

    static void promise24OneThatIsLeftOverIsTooMuch(Run x) {
        x.performed("k01212;+00@0;+00@5;+00@11").is(4);
        // The columns 0, 5 and 11: turned 0, 10 and 4.
        x.halfTurn().isNone();
        x.take(2).is(2);
        x.halfTurn().is(5);
    }

    static void promise24ThirtyCrosses(Run x) {
        x.coverTheBoard();
        x.halfTurn().isNone();
        x.performed("k01212").is(1);
        x.halfTurn().is(0);
        x.turn(13, 1).is(1);
        // It must come upon itself then, from (8, 4) by 1 column and 8 rows.
        x.halfTurn().is(121);
    }

    static void promise24HalfTurnChangesNothing(Run x) {
        x.lay(0, 0, 0).is(0);
        String before = x.look();
        x.halfTurn().isNone();
        x.mustLookLike(before);
    }
}
