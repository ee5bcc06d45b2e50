/** Promises 13 to 15, history, with the term "History": the sentences that name a boundary case. */
public final class HistoryTests {
    public static void main(String[] args) {
        Runner.run(HistoryTests.class, 13, 15, args);
    }

    // ==== "A history of at most 4 states is kept."

    static void termsTheHistoryGrowsFrom0To4(Run x) {
        x.total(9).is(0);
        for (int states = 1; states <= 4; states++) {
            x.shift(1, 0).is(0);
            x.total(9).is(states);
        }
        for (int more = 0; more < 10; more++) {
            x.shift(1, 0).is(0);
            x.total(9).is(4);
        }
    }

    // "if there are 4 already, the oldest one is dropped"

    static void termsFourChangesCanAllBeUndone(Run x) {
        for (int colour = 1; colour <= 4; colour++) {
            x.paint(0, 0, colour).is(colour - 1);
        }
        for (int left = 3; left >= 0; left--) {
            x.undo().is(left);
            x.colour(0, 0).is(left);
        }
        x.undo().isNone();
    }

    static void termsOfFiveChangesTheFirstCannotBeUndone(Run x) {
        for (int colour = 1; colour <= 5; colour++) {
            x.paint(0, 0, colour).is(colour - 1);
        }
        for (int left = 3; left >= 0; left--) {
            x.undo().is(left);
            x.colour(0, 0).is(left + 1);
        }
        x.undo().isNone();
        x.colour(0, 0).is(1);
    }

    static void termsOfManyChangesTheLastFourCanBeUndone(Run x) {
        x.lay(0, 0, 0).is(0);
        for (int cell = 1; cell < 100; cell++) {
            x.move(0, cell).is(cell - 1);
        }
        for (int left = 3; left >= 0; left--) {
            x.undo().is(left);
            x.cross(0, 2).is(95 + left);
        }
        x.undo().isNone();
    }

    static void termsAfterUndoTheHistoryGrowsAgain(Run x) {
        for (int colour = 1; colour <= 5; colour++) {
            x.paint(0, 0, colour).is(colour - 1);
        }
        x.undo().is(3);
        x.undo().is(2);
        x.paint(0, 0, 0).is(3);
        x.paint(0, 0, 5).is(0);
        x.total(9).is(4);
        x.paint(0, 0, 4).is(5);
        x.total(9).is(4);
        int[] colours = {2, 3, 0, 5};
        for (int left = 3; left >= 0; left--) {
            x.undo().is(left);
            x.colour(0, 0).is(colours[left]);
        }
        x.undo().isNone();
    }

    // "Each call of a method that is described as a change, and that returns neither an error nor NONE, records
    // the state before it": one test of each change

    /** The state before the change that was just made comes back. */
    private static void mustBeUndone(Run x, int states, String before) {
        x.total(9).is(states + 1);
        x.undo().is(states);
        x.mustLookLike(before);
    }

    static void termsPaintIsRecorded(Run x) {
        x.layAlikePair();
        String before = x.look();
        x.paint(0, 0, 5).is(0);
        mustBeUndone(x, 2, before);
        x.cell(135, 2).is(0);
    }

    static void termsSetRuleIsRecorded(Run x) {
        x.layAlikePair();
        String before = x.look();
        x.setRule(2).is(0);
        mustBeUndone(x, 2, before);
        x.setRule(0).isNone();
    }

    static void termsLayIsRecorded(Run x) {
        x.layAlikePair();
        String before = x.look();
        x.lay(4, 1, 77).is(2);
        mustBeUndone(x, 2, before);
        x.cell(77, 0).isNone();
    }

    static void termsTakeIsRecorded(Run x) {
        x.layAlikePair();
        String before = x.look();
        x.take(0).is(1);
        mustBeUndone(x, 2, before);
        x.cell(0, 0).is(0);
        x.cell(3, 0).is(1);
    }

    static void termsTurnIsRecorded(Run x) {
        x.setRule(2).is(0);
        x.layAlikePair();
        String before = x.look();
        x.turn(0, 3).is(3);
        mustBeUndone(x, 3, before);
        x.cell(1, 2).is(1);
    }

    static void termsMoveIsRecorded(Run x) {
        x.layAlikePair();
        String before = x.look();
        x.move(0, 77).is(0);
        mustBeUndone(x, 2, before);
        x.cell(77, 0).isNone();
        x.cell(14, 0).is(0);
    }

    static void termsShiftIsRecorded(Run x) {
        x.layAlikePair();
        String before = x.look();
        x.shift(14, 9).is(2);
        mustBeUndone(x, 2, before);
        x.cell(149, 0).isNone();
        x.cell(4, 0).is(1);
    }

    static void termsFillIsRecorded(Run x) {
        x.layAlikePair();
        String before = x.look();
        x.fill(2).isAtLeast(2);
        mustBeUndone(x, 2, before);
        x.total(2).is(140);
    }

    static void termsPerformIsRecorded(Run x) {
        x.layAlikePair();
        x.write("-0;k54321;+50@77");
        String before = x.look();
        x.perform().is(3);
        mustBeUndone(x, 2, before);
    }

    static void termsRestoreIsRecorded(Run x) {
        x.keep().is(0);
        x.layAlikePair();
        String before = x.look();
        x.restore().is(0);
        mustBeUndone(x, 2, before);
        x.cell(3, 0).is(1);
    }

    static void termsErrorsAndNoneAreNotRecorded(Run x) {
        x.layAlikePair();
        x.paint(0, 1, 2).isNotPossible();
        x.paint(0, 1, 1).isNone();
        x.setRule(1).isNotPossible();
        x.setRule(0).isNone();
        x.lay(0, 0, 0).isNotPossible();
        x.take(2).isUnknown();
        x.turn(0, 1).isNotPossible();
        x.move(0, 3).isNotPossible();
        x.move(0, 0).isNone();
        x.shift(15, 0).isOutOfRange();
        x.fill(6).isUnknown();
        x.performed("-77").isUnknown();
        x.performed("-77;").is(-104);
        x.restore().isNone();
        x.total(9).is(2);
        x.undo().is(1);
        x.cross(0, 2).is(0);
        x.cross(1, 2).isUnknown();
    }

    static void termsErrorsAndNoneDropNoState(Run x) {
        for (int colour = 1; colour <= 4; colour++) {
            x.paint(0, 0, colour).is(colour - 1);
        }
        x.paint(0, 0, 4).isNone();
        x.paint(0, 0, 6).isOutOfRange();
        x.take(0).isUnknown();
        x.restore().isNone();
        x.performed("-0").isUnknown();
        x.undo().is(3);
        x.undo().is(2);
        x.undo().is(1);
        x.undo().is(0);
        x.colour(0, 0).is(0);
    }

    static void termsErrorsAndNoneLeaveTheSnapshotAsItIs(Run x) {
        x.lay(0, 0, 77).is(0);
        x.keep().is(1);
        x.take(0).is(0);
        x.layAlikePair();
        x.paint(0, 1, 2).isNotPossible();
        x.setRule(1).isNotPossible();
        x.lay(0, 0, 0).isNotPossible();
        x.turn(0, 1).isNotPossible();
        x.move(0, 3).isNotPossible();
        x.performed("-0;-0").isUnknown();
        x.restore().is(1);
        x.cross(0, 2).is(77);
        x.total(2).is(145);
    }

    static void termsWhatIsNotDescribedAsAChangeIsNotRecorded(Run x) {
        x.layAlikePair();
        x.type('k').is(1);
        x.clearText().is(1);
        x.keep().is(2);
        x.colour(0, 0).is(0);
        x.cell(0, 0).is(0);
        x.cross(0, 0).is(0);
        x.reason(0, 0, 0).is(1);
        x.places(2).isAtLeast(1);
        x.bestPlace(2, 0).isAtLeast(0);
        x.shifts(0).is(1);
        x.halfTurn().isNone();
        x.total(9).is(2);
    }

    // "There is one snapshot, empty at first."

    static void termsTheSnapshotIsEmptyUntilTheFirstKeep(Run x) {
        x.layAlikePair();
        x.undo().is(1);
        x.restore().isNone();
        x.cross(0, 2).is(0);
        x.keep().is(1);
        x.restore().is(1);
    }

    // "The state is everything except the text, the history and the snapshot."

    static void termsTheTextIsNotOfTheState(Run x) {
        x.type('a').is(1);
        x.keep().is(0);
        x.lay(0, 0, 0).is(0);
        x.type('b').is(2);
        x.undo().is(0);
        x.total(10).is(2);
        x.restore().is(0);
        x.total(10).is(2);
    }

    static void termsTheHistoryIsNotOfTheState(Run x) {
        x.keep().is(0);
        x.shift(0, 0).is(0);
        x.shift(0, 0).is(0);
        x.restore().is(0);
        x.total(9).is(3);
        x.undo().is(2);
        x.undo().is(1);
        x.total(9).is(1);
    }

    static void termsTheSnapshotIsNotOfTheState(Run x) {
        x.lay(0, 0, 0).is(0);
        x.keep().is(1);
        x.undo().is(0);
        x.total(0).is(0);
        x.restore().is(1);
        x.cross(0, 2).is(0);
    }

    static void termsRuleColoursAndCrossesAreOfTheState(Run x) {
        x.setRule(1).is(0);
        x.paint(5, 3, 0).is(2);
        x.lay(5, 3, 149).is(0);
        String before = x.look();
        x.keep().is(1);
        x.performed("-149;k54321").is(2);
        x.clearText().is(11);
        x.setRule(2).is(1);
        x.undo().is(3);
        x.undo().is(2);
        x.undo().is(1);
        x.undo().is(0);
        x.restore().is(1);
        x.total(9).is(1);
        x.shift(0, 0).is(1);
        x.shift(0, 0).is(1);
        x.mustLookLike(before);
    }

    // ==== Promise 13: undo

    // "NONE if the history is empty"

    static void promise13NoneOfANewObject(Run x) {
        x.undo().isNone();
        x.undo().isNone();
        x.total(9).is(0);
    }

    static void promise13NoneAfterAllWasUndone(Run x) {
        x.layAlikePair();
        x.undo().is(1);
        x.undo().is(0);
        x.undo().isNone();
        x.total(0).is(0);
        x.lay(0, 0, 0).is(0);
        x.undo().is(0);
    }

    static void promise13NoneChangesNothing(Run x) {
        x.lay(0, 0, 0).is(0);
        for (int colour = 1; colour <= 5; colour++) {
            x.paint(0, 0, colour).is(colour - 1);
        }
        x.undo().is(3);
        x.undo().is(2);
        x.undo().is(1);
        x.undo().is(0);
        String before = x.look();
        x.undo().isNone();
        x.mustLookLike(before);
        x.cell(0, 0).is(0);
    }

    // "Returns how many states are left"

    static void promise13From4StatesTo3AndFrom1To0(Run x) {
        for (int i = 0; i < 4; i++) {
            x.shift(0, 0).is(0);
        }
        for (int left = 3; left >= 0; left--) {
            x.undo().is(left);
            x.total(9).is(left);
        }
    }

    // "Restores the latest state of the history, and removes it from there."

    static void promise13TheLatestStateIsRestoredFirst(Run x) {
        x.lay(0, 0, 0).is(0);
        x.move(0, 50).is(0);
        x.move(0, 100).is(50);
        x.undo().is(2);
        x.cross(0, 2).is(50);
        x.undo().is(1);
        x.cross(0, 2).is(0);
        x.undo().is(0);
        x.total(0).is(0);
    }

    static void promise13UndoIsNoChangeItself(Run x) {
        x.lay(0, 0, 0).is(0);
        x.lay(0, 0, 5).is(1);
        x.undo().is(1);
        x.undo().is(0);
        x.undo().isNone();
        x.total(0).is(0);
    }

    static void promise13NumbersComeBackToTheirCrosses(Run x) {
        x.lay(0, 1, 0).is(0);
        x.lay(1, 2, 5).is(1);
        x.lay(2, 3, 10).is(2);
        x.take(0).is(2);
        x.undo().is(3);
        for (int cross = 0; cross < 3; cross++) {
            x.cross(cross, 0).is(cross);
            x.cross(cross, 1).is(cross + 1);
            x.cross(cross, 2).is(5 * cross);
            x.cell(5 * cross, 0).is(cross);
        }
    }

    static void promise13The30thCrossIsUndone(Run x) {
        x.coverTheBoard();
        x.undo().is(3);
        x.total(0).is(29);
        x.total(2).is(5);
        x.lay(0, 0, 148).is(29);
        x.take(0).is(29);
        x.undo().is(3);
        x.total(0).is(30);
        x.cross(29, 2).is(148);
        x.cell(148, 0).is(29);
    }

    static void promise13AllOf30CrossesComeBack(Run x) {
        x.coverTheBoardWithAllKinds();
        String before = x.look();
        x.take(0).is(29);
        x.undo().is(3);
        x.shift(0, 0).is(30);
        x.mustLookLike(before);
        x.cell(148, 0).is(29);
    }

    static void promise13WhatWasUndoneDoesNotHinder(Run x) {
        x.lay(0, 0, 0).is(0);
        x.undo().is(0);
        x.lay(1, 0, 1).is(0);
        x.move(0, 77).is(1);
        x.undo().is(1);
        x.lay(1, 0, 77).is(1);
        x.lay(1, 0, 1).isNotPossible();
    }

    // ==== Promise 14: keep

    // "Returns how many crosses there are."

    static void promise14OfTheEmptyBoardIs0(Run x) {
        x.keep().is(0);
    }

    static void promise14OfOneCrossIs1(Run x) {
        x.lay(0, 0, 0).is(0);
        x.keep().is(1);
    }

    static void promise14Of30CrossesIs30(Run x) {
        x.coverTheBoard();
        x.keep().is(30);
        x.take(0).is(29);
        x.restore().is(30);
        x.cross(29, 2).is(148);
        x.total(2).is(0);
    }

    // "Takes a snapshot of the state, in place of an earlier one."

    static void promise14TheEarlierSnapshotIsGone(Run x) {
        x.lay(0, 0, 0).is(0);
        x.keep().is(1);
        x.lay(0, 0, 5).is(1);
        x.keep().is(2);
        x.take(0).is(1);
        x.take(0).is(0);
        x.restore().is(2);
    }

    static void promise14ASnapshotOfTheEmptyBoardIsOneToo(Run x) {
        x.lay(0, 0, 0).is(0);
        x.keep().is(1);
        x.take(0).is(0);
        x.keep().is(0);
        x.lay(0, 0, 5).is(0);
        x.restore().is(0);
        x.cell(5, 0).isNone();
    }

    static void promise14LaterChangesDoNotReachTheSnapshot(Run x) {
        x.layAlikePair();
        x.keep().is(2);
        String kept = x.look();
        x.setRule(2).is(0);
        x.paint(0, 0, 5).is(0);
        x.turn(0, 1).is(1);
        x.move(0, 77).is(0);
        x.take(1).is(1);
        x.restore().is(2);
        x.undo().is(3);
        x.undo().is(2);
        x.restore().is(2);
        x.undo().is(2);
        x.restore().is(2);
        x.total(9).is(3);
        x.total(1).is(0);
        x.colour(0, 0).is(0);
        x.cross(0, 1).is(0);
        x.cross(0, 2).is(0);
        x.cross(1, 2).is(3);
        x.undo().is(2);
        x.undo().is(1);
        x.undo().is(0);
        x.restore().is(2);
        x.shift(0, 0).is(2);
        x.mustLookLike(kept);
    }

    static void promise14KeepIsNoChange(Run x) {
        x.lay(0, 0, 0).is(0);
        x.keep().is(1);
        x.total(9).is(1);
        x.undo().is(0);
        x.total(0).is(0);
    }

    // ==== Promise 15: restore

    // "NONE if there is no snapshot"

    static void promise15NoneIfThereIsNoSnapshot(Run x) {
        x.layAlikePair();
        String before = x.look();
        String cells = x.lookAtCells();
        x.restore().isNone();
        x.restore().isNone();
        x.mustLookLike(before);
        x.mustHaveCells(cells);
    }

    // "Restores the state of the snapshot, which stays."

    static void promise15TheSnapshotStays(Run x) {
        x.lay(0, 0, 0).is(0);
        x.keep().is(1);
        for (int i = 0; i < 5; i++) {
            x.take(0).is(0);
            x.restore().is(1);
            x.cell(0, 0).is(0);
        }
    }

    static void promise15TheSnapshotStaysAfterUndo(Run x) {
        x.lay(0, 0, 0).is(0);
        x.keep().is(1);
        x.take(0).is(0);
        x.restore().is(1);
        x.undo().is(2);
        x.total(0).is(0);
        x.restore().is(1);
    }

    static void promise15WhatLayThereMeanwhileIsGone(Run x) {
        x.letNothingClash();
        x.lay(0, 0, 0).is(0);
        x.keep().is(1);
        x.fill(1).isAtLeast(5);
        x.restore().is(1);
        x.total(2).is(145);
        x.cell(77, 0).isNone();
        x.cross(1, 0).isUnknown();
        x.lay(0, 0, 3).is(1);
    }

    // "This is a change."

    static void promise15RestoreIsAChangeAlsoIfNothingIsDifferent(Run x) {
        x.keep().is(0);
        x.restore().is(0);
        x.total(9).is(1);
        x.restore().is(0);
        x.total(9).is(2);
    }

    static void promise15RestoreDropsTheOldestOfFourStates(Run x) {
        x.keep().is(0);
        for (int colour = 1; colour <= 4; colour++) {
            x.paint(0, 0, colour).is(colour - 1);
        }
        x.restore().is(0);
        x.total(9).is(4);
        x.colour(0, 0).is(0);
        for (int left = 3; left >= 0; left--) {
            x.undo().is(left);
            x.colour(0, 0).is(left + 1);
        }
    }

    // "Returns how many crosses there are then"

    static void promise15HowManyThereAreThenAndNotBefore(Run x) {
        x.lay(0, 0, 0).is(0);
        x.keep().is(1);
        x.lay(0, 0, 5).is(1);
        x.lay(0, 0, 10).is(2);
        x.restore().is(1);
        x.keep().is(1);
        x.take(0).is(0);
        x.keep().is(0);
        x.restore().is(0);
    }

    static void promise15AllOf30CrossesOfAllKindsComeBack(Run x) {
        x.coverTheBoardWithAllKinds();
        String before = x.look();
        x.keep().is(30);
        x.take(0).is(29);
        x.take(0).is(28);
        x.restore().is(30);
        x.mustLookLike(before);
        x.cell(148, 0).is(29);
    }

    static void promise15AllOf30CrossesAreThereAgain(Run x) {
        x.coverTheBoard();
        x.keep().is(30);
        x.performed("-0;-5;-10").is(3);
        x.restore().is(30);
        x.total(2).is(0);
        x.lay(0, 0, 0).isNotPossible();
    }
}
