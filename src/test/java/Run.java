/**
 * A new object and the calls that a test makes of it. Each answer can be compared with the one that is due:
 * x.take(0).is(2) and x.take(3).isUnknown(). The calls are counted, as the document promises nothing about
 * the later ones.
 */
final class Run {
    private static final int MOST_CALLS = 512;

    private final Checks checks;
    private final String test;
    private final CarpetCrosses carpet = new CarpetCrosses();
    private int calls = 0;

    Run(Checks checks, String test) {
        this.checks = checks;
        this.test = test;
    }

    /** A run of the same test on one more new object. */
    Run another() {
        return new Run(checks, test);
    }

    /** The answer of a call. */
    static final class Answer {
        private final Run run;
        private final String call;
        private final int value;

        private Answer(Run run, String call, int value) {
            this.run = run;
            this.call = call;
            this.value = value;
        }

        int value() {
            return value;
        }

        void is(int due) {
            run.checks.due(run.test + ", call " + run.calls + ", " + call, value, due);
        }

        void isAtLeast(int least) {
            run.checks.that(run.test + ", call " + run.calls + ", " + call + " answered " + value
                    + ", due is " + least + " or more", value >= least);
        }

        void isUnknown() {
            is(-1);
        }

        void isOutOfRange() {
            is(-2);
        }

        void isFull() {
            is(-3);
        }

        void isNotPossible() {
            is(-4);
        }

        void isNone() {
            is(-5);
        }
    }

    // ---- the calls

    Answer paint(int kind, int arm, int colour) {
        return answer("paint", carpet.paint(kind, arm, colour), kind, arm, colour);
    }

    Answer setRule(int rule) {
        return answer("setRule", carpet.setRule(rule), rule);
    }

    Answer lay(int kind, int turns, int cell) {
        return answer("lay", carpet.lay(kind, turns, cell), kind, turns, cell);
    }

    Answer take(int cross) {
        return answer("take", carpet.take(cross), cross);
    }

    Answer turn(int cross, int turns) {
        return answer("turn", carpet.turn(cross, turns), cross, turns);
    }

    Answer move(int cross, int cell) {
        return answer("move", carpet.move(cross, cell), cross, cell);
    }

    Answer shift(int columns, int rows) {
        return answer("shift", carpet.shift(columns, rows), columns, rows);
    }

    Answer fill(int kind) {
        return answer("fill", carpet.fill(kind), kind);
    }

    Answer type(char character) {
        return answer("type", carpet.type(character), character);
    }

    Answer clearText() {
        return answer("clearText", carpet.clearText());
    }

    Answer perform() {
        return answer("perform", carpet.perform());
    }

    Answer undo() {
        return answer("undo", carpet.undo());
    }

    Answer keep() {
        return answer("keep", carpet.keep());
    }

    Answer restore() {
        return answer("restore", carpet.restore());
    }

    Answer colour(int kind, int arm) {
        return answer("colour", carpet.colour(kind, arm), kind, arm);
    }

    Answer cell(int cell, int what) {
        return answer("cell", carpet.cell(cell, what), cell, what);
    }

    Answer cross(int cross, int what) {
        return answer("cross", carpet.cross(cross, what), cross, what);
    }

    Answer total(int what) {
        return answer("total", carpet.total(what), what);
    }

    Answer reason(int kind, int turns, int cell) {
        return answer("reason", carpet.reason(kind, turns, cell), kind, turns, cell);
    }

    Answer places(int kind) {
        return answer("places", carpet.places(kind), kind);
    }

    Answer bestPlace(int kind, int what) {
        return answer("bestPlace", carpet.bestPlace(kind, what), kind, what);
    }

    Answer shifts(int what) {
        return answer("shifts", carpet.shifts(what), what);
    }

    Answer halfTurn() {
        return answer("halfTurn", carpet.halfTurn());
    }

    private Answer answer(String method, int value, int... arguments) {
        StringBuilder call = new StringBuilder(method).append('(');
        for (int i = 0; i < arguments.length; i++) {
            call.append(i == 0 ? "" : ", ").append(arguments[i]);
        }
        return counted(call.append(')').toString(), value);
    }

    private Answer counted(String call, int value) {
        calls++;
        if (calls == MOST_CALLS + 1) {
            checks.that(test + " makes more than " + MOST_CALLS + " calls of one object", false);
        }
        return new Answer(this, call, value);
    }

    // ---- several calls at once

    /** Puts a text in place of the one that is there. */
    void write(String text) {
        clearText();
        for (int i = 0; i < text.length(); i++) {
            type(text.charAt(i)).is(i + 1);
        }
    }

    /** The answer of perform() to a text. */
    Answer performed(String text) {
        write(text);
        return counted("perform() of \"" + text + "\"", carpet.perform());
    }

    /** Gives all four arms of a kind one colour. */
    void paintAll(int kind, int colour) {
        for (int arm = 0; arm < 4; arm++) {
            paint(kind, arm, colour);
        }
        for (int arm = 0; arm < 4; arm++) {
            colour(kind, arm).is(colour);
        }
    }

    /** Puts RULE to 2, under which arms never clash. */
    void letNothingClash() {
        setRule(2).is(0);
    }

    /** Two crosses whose one touch is of the colour 1: the right arm 1 of one, and the left arm 0 of the other. */
    void layAlikePair() {
        lay(0, 0, 0).is(0);
        lay(1, 3, 3).is(1);
        total(3).is(1);
    }

    /** Under RULE 1, two crosses whose one touch is of the colours 1 (arm 1) and 2 (arm 1 of the other). */
    void layUnlikePair() {
        setRule(1).is(0);
        lay(0, 0, 0).is(0);
        lay(1, 2, 3).is(1);
        total(3).is(1);
    }

    /**
     * Crosses of the kind 0 at all cells with (column + 3 rows) modulo 5 the same as that of a first one,
     * but for one of them: all 30 would cover the whole board. The first one is at 0, 1, 2, 3 or 4.
     */
    void layAllBut(int first, int hole) {
        int laid = 0;
        for (int cell = 0; cell < 150; cell++) {
            if ((cell % 15 + 3 * (cell / 15)) % 5 == first && cell != hole) {
                lay(0, 0, cell).is(laid);
                laid++;
            }
        }
    }

    /** Thirty crosses, under RULE 2; there is one at the cell 0. */
    void coverTheBoard() {
        letNothingClash();
        layAllBut(0, -1);
    }

    /** Thirty crosses, under RULE 2, of all kinds and turned in all ways; the last one is at 148. */
    void coverTheBoardWithAllKinds() {
        letNothingClash();
        for (int cross = 0; cross < 30; cross++) {
            int row = cross / 3;
            lay((cross + 1) % 6, (cross / 6 + 2 * cross) % 4, 15 * row + 2 * row % 5 + 5 * (cross % 3)).is(cross);
        }
    }

    // ---- the state as a whole

    /** All that can be seen of the state but the cells, in some 40 calls, and three more for each cross. */
    String look() {
        StringBuilder seen = new StringBuilder("totals");
        for (int what = 0; what <= 10; what++) {
            seen.append(' ').append(total(what).value());
        }
        seen.append(", colours ");
        for (int kind = 0; kind < 6; kind++) {
            for (int arm = 0; arm < 4; arm++) {
                seen.append(colour(kind, arm).value());
            }
        }
        int crosses = total(0).value();
        for (int cross = 0; cross < crosses; cross++) {
            seen.append(", cross");
            for (int what = 0; what < 3; what++) {
                seen.append(' ').append(cross(cross, what).value());
            }
        }
        return seen.toString();
    }

    /** What is seen on the cells, in 150 calls. */
    String lookAtCells() {
        StringBuilder seen = new StringBuilder("cells");
        for (int cell = 0; cell < 150; cell++) {
            seen.append(' ').append(cell(cell, 0).value());
        }
        return seen.toString();
    }

    void mustLookLike(String due) {
        String seen = look();
        checks.that(test + ", call " + calls + ": seen is " + seen + ", due is " + due, seen.equals(due));
    }

    void mustHaveCells(String due) {
        String seen = lookAtCells();
        checks.that(test + ", call " + calls + ": seen is " + seen + ", due is " + due, seen.equals(due));
    }

    // ---- arguments

    /** Numbers below the least one that is allowed. */
    static int[] below(int least) {
        return new int[] {least - 1, least - 2, -1000, Integer.MIN_VALUE};
    }

    /** Numbers above the greatest one that is allowed. */
    static int[] above(int greatest) {
        return new int[] {greatest + 1, greatest + 2, 1000, Integer.MAX_VALUE};
    }
}
