/** Promises 1 to 9, a new object and the changes: the sentences that name a boundary case. */
public final class ChangesTests {
    /** The arms of a cross at 77, by their directions. */
    private static final int[] ARMS_OF_77 = {62, 78, 92, 76};

    public static void main(String[] args) {
        Runner.run(ChangesTests.class, 1, 9, args);
    }

    // ==== Promise 1: A new object

    // "Creates an empty board, with RULE as 0."

    static void promise01TheBoardIsEmpty(Run x) {
        x.total(0).is(0);
        x.total(2).is(150);
        x.cross(0, 0).isUnknown();
        for (int cell = 0; cell < 150; cell++) {
            x.cell(cell, 0).isNone();
        }
    }

    static void promise01RuleIs0(Run x) {
        x.total(1).is(0);
        x.setRule(0).isNone();
    }

    // "The history", "one snapshot" and "a text" are "empty at first"

    static void promise01TheHistoryIsEmptyAtFirst(Run x) {
        x.total(9).is(0);
        x.undo().isNone();
    }

    static void promise01TheSnapshotIsEmptyAtFirst(Run x) {
        x.restore().isNone();
    }

    static void promise01TheTextIsEmptyAtFirst(Run x) {
        x.total(10).is(0);
        x.clearText().is(0);
    }

    static void promise01ObjectsHaveNothingInCommon(Run x) {
        x.setRule(2).is(0);
        x.paint(0, 0, 5).is(0);
        x.lay(0, 0, 0).is(0);
        x.keep().is(1);
        x.type('k').is(1);
        Run other = x.another();
        other.mustLookLike("totals 0 0 150 0 0 1 150 0 0 0 0, colours 012312342345345045015012");
        other.restore().isNone();
        other.undo().isNone();
    }

    // ==== Promise 2: paint

    // "kind: 0 to 5"; "UNKNOWN"

    static void promise02AKindBelow0(Run x) {
        for (int kind : Run.below(0)) {
            x.paint(kind, 0, 0).isUnknown();
        }
    }

    static void promise02TheKind0(Run x) {
        x.paint(0, 1, 5).is(1);
        x.colour(0, 1).is(5);
        x.colour(1, 1).is(2);
    }

    static void promise02TheKind5(Run x) {
        x.paint(5, 1, 5).is(0);
        x.colour(5, 1).is(5);
        x.colour(4, 1).is(5);
        x.colour(0, 1).is(1);
    }

    static void promise02AKindAbove5(Run x) {
        for (int kind : Run.above(5)) {
            x.paint(kind, 0, 0).isUnknown();
        }
    }

    // "arm: 0 to 3"; "OUT_OF_RANGE"

    static void promise02AnArmBelow0(Run x) {
        for (int arm : Run.below(0)) {
            x.paint(1, arm, 0).isOutOfRange();
        }
    }

    static void promise02TheArm0(Run x) {
        x.paint(1, 0, 5).is(1);
        x.colour(1, 0).is(5);
        x.colour(0, 3).is(3);
    }

    static void promise02TheArm3(Run x) {
        x.paint(1, 3, 5).is(4);
        x.colour(1, 3).is(5);
        x.colour(2, 0).is(2);
    }

    static void promise02AnArmAbove3(Run x) {
        for (int arm : Run.above(3)) {
            x.paint(1, arm, 0).isOutOfRange();
        }
    }

    // "colour: 0 to 5"; "OUT_OF_RANGE"

    static void promise02AColourBelow0(Run x) {
        for (int colour : Run.below(0)) {
            x.paint(1, 0, colour).isOutOfRange();
        }
    }

    static void promise02TheColour0(Run x) {
        x.paint(1, 0, 0).is(1);
        x.colour(1, 0).is(0);
        x.paint(1, 0, 1).is(0);
    }

    static void promise02TheColour5(Run x) {
        x.paint(1, 0, 5).is(1);
        x.colour(1, 0).is(5);
        x.paint(1, 0, 1).is(5);
    }

    static void promise02AColourAbove5(Run x) {
        for (int colour : Run.above(5)) {
            x.paint(1, 0, colour).isOutOfRange();
        }
    }

    // "Changes the colour of an arm of a kind; crosses of it that lie there have it, too."

    static void promise02CrossesThatLieThereHaveTheColourToo(Run x) {
        x.lay(0, 0, 0).is(0);
        x.lay(0, 1, 77).is(1);
        x.lay(1, 0, 83).is(2);
        x.paint(0, 0, 5).is(0);
        x.cell(135, 2).is(5);
        x.cell(78, 2).is(5);
        x.cell(62, 2).is(3);
        x.cell(68, 2).is(1);
    }

    // "NOT_POSSIBLE if arms would clash"

    static void promise02NotPossibleIfTheArmOfTheFirstCrossWouldClash(Run x) {
        x.layAlikePair();
        x.paint(0, 1, 2).isNotPossible();
        x.paint(0, 0, 2).is(0);
    }

    static void promise02NotPossibleIfTheArmOfTheLastCrossWouldClash(Run x) {
        x.layAlikePair();
        x.paint(1, 0, 2).isNotPossible();
        x.paint(1, 1, 5).is(2);
    }

    static void promise02NotPossibleIfArmsWouldBeAlikeUnderRule1(Run x) {
        x.layUnlikePair();
        x.paint(0, 1, 2).isNotPossible();
        x.paint(1, 1, 1).isNotPossible();
        x.paint(0, 1, 3).is(1);
        x.paint(1, 1, 3).isNotPossible();
    }

    static void promise02AlwaysPossibleUnderRule2(Run x) {
        x.setRule(2).is(0);
        x.layAlikePair();
        x.paint(0, 1, 2).is(1);
        x.paint(1, 0, 2).is(1);
    }

    static void promise02BothArmsThatTouchAreOfTheKind(Run x) {
        x.lay(0, 0, 0).is(0);
        x.lay(0, 2, 3).is(1);
        x.paint(0, 1, 4).is(1);
        x.cell(1, 2).is(4);
        x.cell(2, 2).is(4);
        x.total(4).is(1);
    }

    // "NONE if it has this colour already"

    static void promise02NoneIfItHasThisColourAlready(Run x) {
        x.paint(5, 3, 2).isNone();
        x.paint(5, 3, 3).is(2);
        x.paint(5, 3, 3).isNone();
        x.total(9).is(1);
    }

    static void promise02NoneIfTheArmThatTouchesHasThisColourAlready(Run x) {
        x.layAlikePair();
        x.paint(0, 1, 1).isNone();
        x.total(9).is(2);
    }

    // "the one that stands first in the @return line is returned"

    static void promise02UnknownGoesBeforeOutOfRange(Run x) {
        x.paint(6, 4, 6).isUnknown();
        x.paint(6, 4, 0).isUnknown();
        x.paint(6, 0, 6).isUnknown();
        x.paint(-1, -1, -1).isUnknown();
    }

    static void promise02OutOfRangeGoesBeforeNotPossible(Run x) {
        x.layAlikePair();
        x.paint(0, 1, 6).isOutOfRange();
        x.paint(0, 1, -1).isOutOfRange();
        x.paint(0, 5, 2).isOutOfRange();
    }

    // "A method that returns an error or NONE changes nothing."

    static void promise02ARefusedPaintChangesNothing(Run x) {
        x.layAlikePair();
        String before = x.look();
        String cells = x.lookAtCells();
        x.paint(6, 0, 0).isUnknown();
        x.paint(0, 4, 0).isOutOfRange();
        x.paint(0, 0, 6).isOutOfRange();
        x.paint(0, 1, 2).isNotPossible();
        x.paint(0, 1, 1).isNone();
        x.mustLookLike(before);
        x.mustHaveCells(cells);
    }

    // ==== Promise 3: setRule

    // "rule: 0 to 2"; "OUT_OF_RANGE"

    static void promise03ARuleBelow0(Run x) {
        for (int rule : Run.below(0)) {
            x.setRule(rule).isOutOfRange();
        }
    }

    static void promise03TheRule0(Run x) {
        x.setRule(1).is(0);
        x.setRule(0).is(1);
        x.total(1).is(0);
    }

    static void promise03TheRule2(Run x) {
        x.setRule(2).is(0);
        x.total(1).is(2);
        x.setRule(1).is(2);
    }

    static void promise03ARuleAbove2(Run x) {
        for (int rule : Run.above(2)) {
            x.setRule(rule).isOutOfRange();
        }
    }

    // "NOT_POSSIBLE if arms would clash"

    static void promise03TheRule0IsNotPossibleIfOneTouchIsUnlike(Run x) {
        x.setRule(2).is(0);
        x.lay(0, 0, 0).is(0);
        x.lay(0, 2, 3).is(1);
        x.lay(0, 0, 12).is(2);
        // Alike to the right, and to the left the colour 3 beside 1.
        x.total(3).is(2);
        x.total(4).is(1);
        x.setRule(0).isNotPossible();
        x.total(1).is(2);
    }

    static void promise03TheRule1IsNotPossibleIfOneTouchIsAlike(Run x) {
        x.setRule(2).is(0);
        x.lay(0, 0, 0).is(0);
        x.lay(0, 2, 3).is(1);
        x.lay(0, 0, 12).is(2);
        x.setRule(1).isNotPossible();
        x.total(1).is(2);
    }

    static void promise03TheRule0IsPossibleIfAllTouchesAreAlike(Run x) {
        x.setRule(2).is(0);
        x.layAlikePair();
        x.setRule(1).isNotPossible();
        x.setRule(0).is(2);
    }

    static void promise03TheRule1IsPossibleIfNoTouchIsAlike(Run x) {
        x.layUnlikePair();
        x.setRule(0).isNotPossible();
        x.setRule(2).is(1);
        x.setRule(0).isNotPossible();
        x.setRule(1).is(2);
    }

    static void promise03TheRule2IsAlwaysPossible(Run x) {
        x.layAlikePair();
        x.setRule(2).is(0);
        x.move(1, 5).is(3);
        x.turn(1, 3).is(2);
        x.move(1, 3).is(5);
        x.setRule(1).is(2);
        x.setRule(2).is(1);
    }

    static void promise03EachRuleIsPossibleIfNothingTouches(Run x) {
        x.lay(0, 0, 0).is(0);
        x.lay(0, 0, 4).is(1);
        x.total(3).is(0);
        x.setRule(1).is(0);
        x.setRule(0).is(1);
        x.setRule(2).is(0);
    }

    // "NONE if it is this already"

    static void promise03NoneIfItIsThisAlready(Run x) {
        for (int rule = 0; rule < 3; rule++) {
            x.setRule(rule);
            x.setRule(rule).isNone();
            x.total(1).is(rule);
        }
        x.total(9).is(2);
    }

    // "the one that stands first in the @return line is returned"

    static void promise03OutOfRangeGoesBeforeNotPossible(Run x) {
        x.layAlikePair();
        x.setRule(3).isOutOfRange();
        x.setRule(-1).isOutOfRange();
        x.setRule(1).isNotPossible();
    }

    // "A method that returns an error or NONE changes nothing."

    static void promise03ARefusedSetRuleChangesNothing(Run x) {
        x.layAlikePair();
        String before = x.look();
        x.setRule(3).isOutOfRange();
        x.setRule(1).isNotPossible();
        x.setRule(0).isNone();
        x.mustLookLike(before);
    }

    // ==== Promise 4: lay

    // "kind: 0 to 5"; "UNKNOWN (kind or cell)"

    static void promise04AKindBelow0(Run x) {
        for (int kind : Run.below(0)) {
            x.lay(kind, 0, 0).isUnknown();
        }
    }

    static void promise04TheKinds0And5(Run x) {
        x.lay(0, 0, 0).is(0);
        x.lay(5, 0, 77).is(1);
        x.cross(0, 0).is(0);
        x.cross(1, 0).is(5);
        x.cell(1, 2).is(1);
        x.cell(78, 2).is(0);
    }

    static void promise04AKindAbove5(Run x) {
        for (int kind : Run.above(5)) {
            x.lay(kind, 0, 0).isUnknown();
        }
    }

    // "turns: 0 to 3: quarter turns"; "OUT_OF_RANGE"

    static void promise04TurnsBelow0(Run x) {
        for (int turns : Run.below(0)) {
            x.lay(0, turns, 0).isOutOfRange();
        }
    }

    static void promise04TheTurns0And3(Run x) {
        x.lay(0, 0, 0).is(0);
        x.lay(0, 3, 77).is(1);
        x.cross(0, 1).is(0);
        x.cross(1, 1).is(3);
        x.cell(135, 2).is(0);
        x.cell(62, 2).is(1);
    }

    static void promise04TurnsAbove3(Run x) {
        for (int turns : Run.above(3)) {
            x.lay(0, turns, 0).isOutOfRange();
        }
    }

    // "cell: 0 to 149: its middle"; "UNKNOWN (kind or cell)"

    static void promise04ACellBelow0(Run x) {
        for (int cell : Run.below(0)) {
            x.lay(0, 0, cell).isUnknown();
        }
    }

    static void promise04TheCells0And149(Run x) {
        x.letNothingClash();
        x.lay(0, 0, 0).is(0);
        x.take(0).is(0);
        x.lay(0, 0, 149).is(0);
        x.cross(0, 2).is(149);
        x.cell(149, 1).is(4);
    }

    static void promise04ACellAbove149(Run x) {
        for (int cell : Run.above(149)) {
            x.lay(0, 0, cell).isUnknown();
        }
    }

    // "NOT_POSSIBLE": "A cell is under another cross, or arms would clash."

    static void promise04NotPossibleOnTheMiddleOfAnother(Run x) {
        x.lay(0, 0, 77).is(0);
        x.lay(0, 0, 77).isNotPossible();
    }

    static void promise04NotPossibleOnAnArmOfAnother(Run x) {
        x.letNothingClash();
        x.lay(0, 0, 77).is(0);
        for (int cell : ARMS_OF_77) {
            x.lay(0, 0, cell).isNotPossible();
        }
    }

    static void promise04NotPossibleIfAnArmWouldLieOnAnArm(Run x) {
        x.letNothingClash();
        x.lay(0, 0, 77).is(0);
        for (int cell : new int[] {47, 79, 107, 75, 61, 63, 91, 93}) {
            x.lay(0, 0, cell).isNotPossible();
        }
        x.lay(0, 0, 80).is(1);
    }

    static void promise04NotPossibleIfArmsWouldClash(Run x) {
        x.lay(0, 0, 0).is(0);
        x.lay(1, 0, 3).isNotPossible();
        x.lay(1, 3, 3).is(1);
    }

    // "FULL if there are 30": the board is covered then, so that NOT_POSSIBLE goes before it

    static void promise04The30thCrossCanBeLaid(Run x) {
        x.letNothingClash();
        x.layAllBut(0, 0);
        x.total(0).is(29);
        x.lay(5, 3, 0).is(29);
        x.cross(29, 0).is(5);
        x.total(0).is(30);
    }

    static void promise04NotPossibleGoesBeforeFull(Run x) {
        x.coverTheBoard();
        for (int cell = 0; cell < 150; cell++) {
            x.lay(0, 0, cell).isNotPossible();
        }
        x.total(0).is(30);
    }

    // "the one that stands first in the @return line is returned"

    static void promise04UnknownGoesBeforeOutOfRange(Run x) {
        x.lay(6, 4, 0).isUnknown();
        x.lay(0, 4, 150).isUnknown();
        x.lay(-1, -1, -1).isUnknown();
    }

    static void promise04UnknownGoesBeforeNotPossible(Run x) {
        x.lay(0, 0, 0).is(0);
        x.lay(6, 0, 0).isUnknown();
    }

    static void promise04OutOfRangeGoesBeforeNotPossible(Run x) {
        x.lay(0, 0, 0).is(0);
        x.lay(0, 4, 0).isOutOfRange();
        x.lay(0, -1, 1).isOutOfRange();
    }

    static void promise04UnknownAndOutOfRangeGoBeforeFull(Run x) {
        x.coverTheBoard();
        x.lay(6, 0, 0).isUnknown();
        x.lay(0, 0, 150).isUnknown();
        x.lay(0, 4, 0).isOutOfRange();
    }

    // "A method that returns an error or NONE changes nothing."

    static void promise04ARefusedLayChangesNothing(Run x) {
        x.layAlikePair();
        String before = x.look();
        String cells = x.lookAtCells();
        x.lay(6, 0, 77).isUnknown();
        x.lay(0, 0, 150).isUnknown();
        x.lay(0, 4, 77).isOutOfRange();
        x.lay(0, 0, 1).isNotPossible();
        x.lay(0, 1, 6).isNotPossible();
        x.mustLookLike(before);
        x.mustHaveCells(cells);
    }

    // ==== Promise 5: take

    // "cross: a cross"; "UNKNOWN"

    static void promise05ACrossBelow0(Run x) {
        x.lay(0, 0, 0).is(0);
        for (int cross : Run.below(0)) {
            x.take(cross).isUnknown();
        }
    }

    static void promise05ACrossAboveTheLast(Run x) {
        x.lay(0, 0, 0).is(0);
        x.lay(0, 0, 5).is(1);
        for (int cross : Run.above(1)) {
            x.take(cross).isUnknown();
        }
        x.take(30).isUnknown();
    }

    static void promise05TakeFromTheEmptyBoard(Run x) {
        x.take(0).isUnknown();
        x.total(9).is(0);
    }

    static void promise05TheCrossThatWasTakenAwayIsUnknown(Run x) {
        x.lay(0, 0, 0).is(0);
        x.take(0).is(0);
        x.take(0).isUnknown();
    }

    // "Returns how many are left"

    static void promise05TheOnlyOneLeavesNone(Run x) {
        x.lay(0, 0, 0).is(0);
        x.take(0).is(0);
        x.total(0).is(0);
        x.total(2).is(150);
        x.cell(0, 0).isNone();
        x.cell(14, 0).isNone();
    }

    static void promise05TheFirstOf30Leaves29(Run x) {
        x.coverTheBoard();
        x.cross(29, 2).is(148);
        x.take(0).is(29);
        x.cross(28, 2).is(148);
        x.cross(29, 2).isUnknown();
        x.cell(148, 0).is(28);
        x.total(2).is(5);
    }

    static void promise05TheLastOf30Leaves29(Run x) {
        x.coverTheBoard();
        x.take(29).is(29);
        x.cross(28, 2).is(143);
        x.cell(148, 0).isNone();
        x.cell(0, 0).is(0);
    }

    // "A method that returns an error or NONE changes nothing."

    static void promise05ARefusedTakeChangesNothing(Run x) {
        x.layAlikePair();
        String before = x.look();
        String cells = x.lookAtCells();
        x.take(-1).isUnknown();
        x.take(2).isUnknown();
        x.mustLookLike(before);
        x.mustHaveCells(cells);
    }

    // ==== Promise 6: turn

    // "cross: a cross"; "UNKNOWN"

    static void promise06ACrossBelow0(Run x) {
        x.lay(0, 0, 0).is(0);
        for (int cross : Run.below(0)) {
            x.turn(cross, 1).isUnknown();
        }
    }

    static void promise06ACrossAboveTheLast(Run x) {
        x.lay(0, 0, 0).is(0);
        x.turn(0, 1).is(1);
        for (int cross : Run.above(0)) {
            x.turn(cross, 1).isUnknown();
        }
    }

    static void promise06TurnOnTheEmptyBoard(Run x) {
        x.turn(0, 1).isUnknown();
    }

    // "turns: 1 to 3"; "OUT_OF_RANGE"

    static void promise06TurnsBelow1(Run x) {
        x.lay(0, 0, 0).is(0);
        for (int turns : Run.below(1)) {
            x.turn(0, turns).isOutOfRange();
        }
    }

    static void promise06TheTurns1And3(Run x) {
        x.lay(0, 0, 0).is(0);
        x.turn(0, 1).is(1);
        x.cell(1, 2).is(0);
        x.take(0).is(0);
        x.lay(0, 0, 0).is(0);
        x.turn(0, 3).is(3);
        x.cell(1, 2).is(2);
    }

    static void promise06TurnsAbove3(Run x) {
        x.lay(0, 0, 0).is(0);
        for (int turns : Run.above(3)) {
            x.turn(0, turns).isOutOfRange();
        }
    }

    // "Returns its quarter turns then (0 to 3)"

    static void promise06TheQuarterTurnsGoRoundAt4(Run x) {
        int cell = 0;
        for (int turns = 0; turns < 4; turns++) {
            for (int more = 1; more < 4; more++) {
                x.lay(0, turns, cell).is(0);
                x.turn(0, more).is((turns + more) % 4);
                x.cross(0, 1).is((turns + more) % 4);
                x.take(0).is(0);
                cell += 11;
            }
        }
    }

    static void promise06FromThreeByOneIsNone(Run x) {
        x.lay(2, 3, 77).is(0);
        x.turn(0, 1).is(0);
        for (int direction = 0; direction < 4; direction++) {
            x.cell(ARMS_OF_77[direction], 2).is(2 + direction);
        }
    }

    static void promise06FromThreeByThreeIsTwo(Run x) {
        x.lay(2, 3, 77).is(0);
        x.turn(0, 3).is(2);
        x.cell(62, 2).is(4);
    }

    // "NOT_POSSIBLE if arms would clash"

    static void promise06NotPossibleIfArmsWouldClashUnderRule0(Run x) {
        x.layAlikePair();
        for (int cross = 0; cross < 2; cross++) {
            for (int turns = 1; turns < 4; turns++) {
                x.turn(cross, turns).isNotPossible();
            }
        }
    }

    static void promise06NotPossibleIfArmsWouldClashUnderRule1(Run x) {
        x.layUnlikePair();
        // To the left the cross 1 would have, by 1, 2 and 3 quarter turns more, the arms 0, 3 and 2.
        x.turn(1, 1).isNotPossible();
        x.turn(1, 2).is(0);
        x.cell(2, 2).is(4);
        x.turn(1, 1).is(1);
        x.cell(2, 2).is(3);
        x.turn(1, 2).isNotPossible();
    }

    static void promise06PossibleIfTheArmThatComesThereIsAlike(Run x) {
        x.layAlikePair();
        x.paint(1, 2, 1).is(3);
        x.turn(1, 1).isNotPossible();
        x.turn(1, 3).isNotPossible();
        x.turn(1, 2).is(1);
    }

    static void promise06AlwaysPossibleUnderRule2(Run x) {
        x.setRule(2).is(0);
        x.layAlikePair();
        x.turn(0, 1).is(1);
        x.turn(0, 2).is(3);
        x.turn(1, 3).is(2);
    }

    static void promise06TheArmsOfTheCrossItselfDoNotMatter(Run x) {
        x.lay(0, 0, 0).is(0);
        x.turn(0, 1).is(1);
        x.paintAll(1, 3);
        x.setRule(1).is(0);
        x.lay(1, 0, 77).is(1);
        x.turn(1, 1).is(1);
    }

    // "the one that stands first in the @return line is returned"

    static void promise06UnknownGoesBeforeOutOfRange(Run x) {
        x.turn(0, 0).isUnknown();
        x.lay(0, 0, 0).is(0);
        x.turn(1, 4).isUnknown();
        x.turn(-1, 0).isUnknown();
    }

    static void promise06OutOfRangeGoesBeforeNotPossible(Run x) {
        x.layAlikePair();
        x.turn(0, 5).isOutOfRange();
        x.turn(0, -1).isOutOfRange();
    }

    // "A method that returns an error or NONE changes nothing."

    static void promise06ARefusedTurnChangesNothing(Run x) {
        x.layAlikePair();
        String before = x.look();
        x.turn(2, 1).isUnknown();
        x.turn(0, 0).isOutOfRange();
        x.turn(0, 4).isOutOfRange();
        x.turn(0, 1).isNotPossible();
        x.turn(1, 3).isNotPossible();
        x.mustLookLike(before);
    }

    // ==== Promise 7: move

    // "cross: a cross"; "UNKNOWN (cross or cell)"

    static void promise07ACrossBelow0(Run x) {
        x.lay(0, 0, 0).is(0);
        for (int cross : Run.below(0)) {
            x.move(cross, 77).isUnknown();
        }
    }

    static void promise07ACrossAboveTheLast(Run x) {
        x.lay(0, 0, 0).is(0);
        for (int cross : Run.above(0)) {
            x.move(cross, 77).isUnknown();
        }
    }

    static void promise07MoveOnTheEmptyBoard(Run x) {
        x.move(0, 0).isUnknown();
    }

    // "cell: 0 to 149"; "UNKNOWN (cross or cell)"

    static void promise07ACellBelow0(Run x) {
        x.lay(0, 0, 0).is(0);
        for (int cell : Run.below(0)) {
            x.move(0, cell).isUnknown();
        }
    }

    static void promise07TheCells0And149(Run x) {
        x.lay(0, 0, 77).is(0);
        x.move(0, 0).is(77);
        x.cell(14, 1).is(3);
        x.move(0, 149).is(0);
        x.cell(14, 1).is(2);
        x.cross(0, 2).is(149);
        x.move(0, 77).is(149);
    }

    static void promise07ACellAbove149(Run x) {
        x.lay(0, 0, 0).is(0);
        for (int cell : Run.above(149)) {
            x.move(0, cell).isUnknown();
        }
    }

    // "Moves a cross to another middle, as it is turned."

    static void promise07TheCrossStaysTurnedAndKeepsItsNumber(Run x) {
        x.lay(3, 3, 0).is(0);
        x.lay(4, 1, 5).is(1);
        x.move(0, 77).is(0);
        x.cross(0, 0).is(3);
        x.cross(0, 1).is(3);
        x.cross(1, 2).is(5);
        x.cell(62, 2).is(4);
        x.cell(77, 0).is(0);
        x.cell(0, 0).isNone();
        x.cell(14, 0).isNone();
        x.total(2).is(140);
    }

    // "NOT_POSSIBLE (cells that it lies on itself do not matter)"

    static void promise07TheCellsThatItLiesOnItselfDoNotMatter(Run x) {
        x.lay(0, 0, 0).is(0);
        for (int cell : new int[] {1, 15, 14, 135, 2, 30, 13, 120, 16, 29, 136, 149}) {
            x.move(0, cell).is(0);
            x.cell(cell, 1).is(4);
            x.total(2).is(145);
            x.move(0, 0).is(cell);
        }
    }

    static void promise07TheArmsThatItHadDoNotClashWithIt(Run x) {
        x.lay(0, 0, 0).is(0);
        x.move(0, 3).is(0);
        x.paintAll(0, 0);
        x.setRule(1).is(0);
        x.move(0, 0).is(3);
        x.move(0, 17).is(0);
    }

    static void promise07NotPossibleIfACellIsUnderAnother(Run x) {
        x.letNothingClash();
        x.lay(0, 0, 0).is(0);
        x.lay(0, 0, 77).is(1);
        for (int cell : new int[] {77, 62, 78, 92, 76, 47, 79, 107, 75, 61, 63, 91, 93}) {
            x.move(0, cell).isNotPossible();
        }
        x.move(0, 80).is(0);
    }

    static void promise07NotPossibleForTheLastCrossIfACellIsUnderTheFirst(Run x) {
        x.letNothingClash();
        x.lay(0, 0, 0).is(0);
        x.lay(0, 0, 77).is(1);
        x.move(1, 0).isNotPossible();
        x.move(1, 149).isNotPossible();
        x.move(1, 13).isNotPossible();
        x.move(1, 12).is(77);
    }

    static void promise07NotPossibleIfArmsWouldClash(Run x) {
        x.lay(0, 0, 0).is(0);
        x.lay(1, 0, 77).is(1);
        x.move(1, 3).isNotPossible();
        x.turn(1, 3).is(3);
        x.move(1, 3).is(77);
        x.total(4).is(1);
    }

    static void promise07NotPossibleIfArmsWouldBeAlikeUnderRule1(Run x) {
        x.setRule(1).is(0);
        x.lay(0, 0, 0).is(0);
        x.lay(1, 3, 77).is(1);
        x.move(1, 3).isNotPossible();
        x.turn(1, 1).is(0);
        x.move(1, 3).is(77);
    }

    static void promise07OneOf30CannotBeMoved(Run x) {
        x.coverTheBoard();
        for (int cell : new int[] {1, 15, 14, 135, 2, 16, 5, 149}) {
            x.move(0, cell).isNotPossible();
        }
        x.move(0, 0).isNone();
    }

    static void promise07OneOf29CanBeMovedToTheHole(Run x) {
        x.letNothingClash();
        x.layAllBut(1, 149);
        x.move(0, 149).is(1);
        x.move(0, 2).isNotPossible();
        x.move(0, 1).is(149);
    }

    // "NONE if it is there already"

    static void promise07NoneIfItIsThereAlready(Run x) {
        x.lay(0, 0, 0).is(0);
        x.lay(0, 0, 149 - 5).is(1);
        x.move(0, 0).isNone();
        x.move(1, 144).isNone();
        x.total(9).is(2);
    }

    // "the one that stands first in the @return line is returned"

    static void promise07UnknownGoesBeforeNotPossible(Run x) {
        x.lay(0, 0, 0).is(0);
        x.move(1, 0).isUnknown();
        x.move(-1, 0).isUnknown();
        x.move(1, 150).isUnknown();
    }

    // "A method that returns an error or NONE changes nothing."

    static void promise07ARefusedMoveChangesNothing(Run x) {
        x.layAlikePair();
        String before = x.look();
        String cells = x.lookAtCells();
        x.move(2, 0).isUnknown();
        x.move(0, 150).isUnknown();
        x.move(0, 4).isNotPossible();
        x.move(0, 48).isNotPossible();
        x.move(1, 3).isNone();
        x.mustLookLike(before);
        x.mustHaveCells(cells);
    }

    // ==== Promise 8: shift

    // "columns: 0 to 14"; "OUT_OF_RANGE"

    static void promise08ColumnsBelow0(Run x) {
        for (int columns : Run.below(0)) {
            x.shift(columns, 0).isOutOfRange();
        }
    }

    static void promise08TheColumns14(Run x) {
        x.lay(0, 0, 75).is(0);
        x.shift(14, 0).is(1);
        x.cross(0, 2).is(89);
        x.shift(14, 0).is(1);
        x.cross(0, 2).is(88);
    }

    static void promise08ColumnsAbove14(Run x) {
        for (int columns : Run.above(14)) {
            x.shift(columns, 0).isOutOfRange();
        }
    }

    // "rows: 0 to 9"; "OUT_OF_RANGE"

    static void promise08RowsBelow0(Run x) {
        for (int rows : Run.below(0)) {
            x.shift(0, rows).isOutOfRange();
        }
    }

    static void promise08TheRows9(Run x) {
        x.lay(0, 0, 7).is(0);
        x.shift(0, 9).is(1);
        x.cross(0, 2).is(142);
        x.shift(0, 9).is(1);
        x.cross(0, 2).is(127);
    }

    static void promise08RowsAbove9(Run x) {
        for (int rows : Run.above(9)) {
            x.shift(0, rows).isOutOfRange();
        }
        x.shift(0, 14).isOutOfRange();
    }

    // "Moves all crosses by some columns to the right and some rows down." over the edges

    static void promise08OverTheRightEdge(Run x) {
        x.lay(1, 2, 74).is(0);
        x.shift(1, 0).is(1);
        x.cross(0, 2).is(60);
        x.cell(74, 1).is(3);
    }

    static void promise08OverTheLowerEdge(Run x) {
        x.lay(1, 2, 142).is(0);
        x.shift(0, 1).is(1);
        x.cross(0, 2).is(7);
        x.cell(142, 1).is(0);
    }

    static void promise08OverBothEdges(Run x) {
        x.lay(1, 2, 149).is(0);
        x.shift(1, 1).is(1);
        x.cross(0, 2).is(0);
        x.cross(0, 0).is(1);
        x.cross(0, 1).is(2);
        x.shift(14, 9).is(1);
        x.cross(0, 2).is(149);
    }

    static void promise08AllCrossesAreMovedAndKeepTheirNumbers(Run x) {
        x.layAlikePair();
        x.shift(13, 9).is(2);
        x.cross(0, 2).is(148);
        x.cross(1, 2).is(136);
        x.cell(148, 0).is(0);
        x.cell(136, 0).is(1);
        x.cell(0, 0).isNone();
        x.cell(18, 0).isNone();
        x.total(4).is(1);
    }

    static void promise08AllOf30CrossesAreMoved(Run x) {
        x.coverTheBoard();
        x.shift(0, 0).is(30);
        x.shift(1, 0).is(30);
        x.cross(0, 2).is(1);
        x.cross(29, 2).is(149);
        x.total(2).is(0);
        x.cell(149, 1).is(4);
    }

    // "This is a change, also if nothing is different by it."

    static void promise08ShiftByNothingIsAChange(Run x) {
        x.lay(0, 0, 0).is(0);
        x.shift(0, 0).is(1);
        x.total(9).is(2);
        x.cross(0, 2).is(0);
        x.undo().is(1);
        x.total(0).is(1);
    }

    static void promise08ShiftOfTheEmptyBoardIsAChange(Run x) {
        x.shift(0, 0).is(0);
        x.shift(14, 9).is(0);
        x.total(9).is(2);
    }

    // "A method that returns an error or NONE changes nothing."

    static void promise08ARefusedShiftChangesNothing(Run x) {
        x.layAlikePair();
        String before = x.look();
        String cells = x.lookAtCells();
        x.shift(15, 1).isOutOfRange();
        x.shift(1, 10).isOutOfRange();
        x.shift(-1, 1).isOutOfRange();
        x.shift(1, -1).isOutOfRange();
        x.mustLookLike(before);
        x.mustHaveCells(cells);
    }

    // ==== Promise 9: fill

    // "kind: 0 to 5"; "UNKNOWN"

    static void promise09AKindBelow0(Run x) {
        for (int kind : Run.below(0)) {
            x.fill(kind).isUnknown();
        }
    }

    static void promise09TheKind0(Run x) {
        x.letNothingClash();
        x.layAllBut(0, 0);
        x.fill(0).is(1);
        x.cross(29, 0).is(0);
    }

    static void promise09TheKind5(Run x) {
        x.letNothingClash();
        x.layAllBut(0, 0);
        x.fill(5).is(1);
        x.cross(29, 0).is(5);
    }

    static void promise09AKindAbove5(Run x) {
        for (int kind : Run.above(5)) {
            x.fill(kind).isUnknown();
        }
    }

    // "for each cell, from 0 on"

    static void promise09TheFirstCellIs0(Run x) {
        x.fill(3).isAtLeast(1);
        x.cross(0, 2).is(0);
        x.cross(0, 1).is(0);
    }

    static void promise09OfTheEmptyBoardRowByRow(Run x) {
        x.letNothingClash();
        x.fill(0).is(25);
        // Five in every other row; those of the row 8 must not come too near to those of the row 0.
        int[] firstColumns = {0, 1, 0, 1, 2};
        for (int cross = 0; cross < 25; cross++) {
            x.cross(cross, 2).is(30 * (cross / 5) + firstColumns[cross / 5] + 3 * (cross % 5));
        }
    }

    static void promise09TheLastCellIs149(Run x) {
        x.letNothingClash();
        x.layAllBut(1, 149);
        x.fill(0).is(1);
        x.cross(29, 2).is(149);
        x.cross(29, 1).is(0);
    }

    // "a cross is laid there, if it can be"

    static void promise09NothingIsLaidOverOthers(Run x) {
        x.letNothingClash();
        x.lay(0, 0, 17).is(0);
        x.fill(1).isAtLeast(1);
        // 1, 2 and 3 are too near to 17, which has the column 2 and the row 1.
        x.cross(1, 2).is(0);
        x.cross(2, 2).is(4);
        x.total(2).is(150 - 5 * x.total(0).value());
        x.places(1).is(0);
    }

    static void promise09WhatIsLaidDoesNotClash(Run x) {
        x.fill(0).isAtLeast(2);
        x.total(3).isAtLeast(1);
        x.total(4).is(x.total(3).value());
    }

    static void promise09WhatIsLaidDoesNotClashUnderRule1(Run x) {
        x.setRule(1).is(0);
        x.fill(0).isAtLeast(2);
        x.total(3).isAtLeast(1);
        x.total(4).is(0);
    }

    // "with the fewest quarter turns with which it can"

    /** The cross at 3 shows one colour; at 0 the right arm, which is 1, 0, 3 or 2, must have it, too. */
    static void promise09TheFewestQuarterTurnsAreThoseWithWhichItCan(Run x) {
        int[] turnsByColour = {1, 0, 3, 2};
        for (int colour = 0; colour < 4; colour++) {
            Run y = x.another();
            y.paintAll(1, colour);
            y.lay(1, 0, 3).is(0);
            y.fill(0).isAtLeast(1);
            y.cross(1, 2).is(0);
            y.cross(1, 1).is(turnsByColour[colour]);
        }
    }

    static void promise09OfTwoWaysToTurnItTheOneWithFewerTurns(Run x) {
        x.paintAll(1, 2);
        x.paint(0, 0, 2).is(0);
        x.lay(1, 0, 3).is(0);
        // To the right, it has the colours 1, 2, 3 and 2 by 0, 1, 2 and 3 quarter turns.
        x.fill(0).isAtLeast(1);
        x.cross(1, 2).is(0);
        x.cross(1, 1).is(1);
    }

    static void promise09ACellWhereItCannotBeIsLeftOut(Run x) {
        x.paintAll(1, 5);
        x.lay(1, 0, 3).is(0);
        x.reason(0, 0, 0).is(3);
        x.fill(0).isAtLeast(1);
        // 1 to 5 are too near to the other, and at 6 it would touch it again.
        x.cross(1, 2).is(7);
    }

    // "as long as there are fewer than 30"

    static void promise09FillUpTo30(Run x) {
        x.coverTheBoard();
        x.take(29).is(29);
        x.fill(0).is(1);
        x.total(0).is(30);
        x.total(2).is(0);
    }

    // "This is a change.": one

    static void promise09FillIsOneChange(Run x) {
        x.fill(0).isAtLeast(2);
        x.total(9).is(1);
        x.undo().is(0);
        x.total(0).is(0);
    }

    // "Returns how many are laid; UNKNOWN; NONE if none can be."

    static void promise09HowManyAreLaidAndNotHowManyThereAre(Run x) {
        x.letNothingClash();
        x.layAllBut(0, 0);
        x.take(28).is(28);
        x.fill(0).is(2);
        x.total(0).is(30);
    }

    static void promise09NoneIfThereAre30(Run x) {
        x.coverTheBoard();
        x.fill(0).isNone();
    }

    static void promise09NoneIfAllWouldClash(Run x) {
        x.paintAll(0, 0);
        x.layAllBut(0, 0);
        x.paintAll(1, 1);
        x.fill(1).isNone();
        x.fill(0).is(1);
    }

    static void promise09NoneIfItWasFilledAlready(Run x) {
        x.fill(2).isAtLeast(1);
        x.fill(2).isNone();
        x.total(9).is(1);
    }

    // "NONE is not an error; it is returned only if no error applies."

    static void promise09UnknownGoesBeforeNone(Run x) {
        x.coverTheBoard();
        x.fill(6).isUnknown();
        x.fill(-1).isUnknown();
    }

    // "A method that returns an error or NONE changes nothing."

    static void promise09ARefusedFillChangesNothing(Run x) {
        x.paintAll(0, 0);
        x.layAllBut(0, 0);
        x.paintAll(1, 1);
        String before = x.look();
        x.fill(6).isUnknown();
        x.fill(1).isNone();
        x.mustLookLike(before);
        x.reason(0, 0, 0).is(0);
    }
}
