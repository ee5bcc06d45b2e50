/** Tests of each promise: ordinary inputs, the edges that the document names, and wrong inputs. */
public final class PromiseTests {
    private static final int UNKNOWN = CarpetCrosses.UNKNOWN;
    private static final int OUT_OF_RANGE = CarpetCrosses.OUT_OF_RANGE;
    private static final int FULL = CarpetCrosses.FULL;
    private static final int NOT_POSSIBLE = CarpetCrosses.NOT_POSSIBLE;
    private static final int NONE = CarpetCrosses.NONE;
    private static final int[] WRONG = {-1, -5, 1000, Integer.MIN_VALUE, Integer.MAX_VALUE};

    private static final Checks CHECKS = new Checks("PromiseTests");
    private static String about = "";

    private static void due(String call, long got, long want) {
        CHECKS.due(about + ": " + call, got, want);
    }

    private static CarpetCrosses begin(String promise) {
        about = promise;
        return new CarpetCrosses();
    }

    /** All arms of all kinds in one colour, so that under RULE 0 nothing clashes. */
    private static CarpetCrosses beginPlain(String promise) {
        CarpetCrosses x = begin(promise);
        for (int kind = 0; kind < 6; kind++) {
            for (int arm = 0; arm < 4; arm++) {
                x.paint(kind, arm, 0);
            }
        }
        return x;
    }

    private static CarpetCrosses beginWithRule(String promise, int rule) {
        CarpetCrosses x = begin(promise);
        due("setRule", x.setRule(rule), 0);
        return x;
    }

    private static void write(CarpetCrosses x, String text) {
        x.clearText();
        for (int i = 0; i < text.length(); i++) {
            x.type(text.charAt(i));
        }
    }

    private static int performed(CarpetCrosses x, String text) {
        write(x, text);
        return x.perform();
    }

    public static void main(String[] args) {
        constants();
        newObject();
        paint();
        paintClashes();
        setRule();
        lay();
        layOnTheWholeBoard();
        take();
        turn();
        move();
        shift();
        fill();
        fillWithTurns();
        typeAndClear();
        performFaults();
        performOrders();
        performErrors();
        undo();
        history();
        keepAndRestore();
        colour();
        cell();
        cross();
        crossTouches();
        total();
        totalOfRegions();
        reason();
        places();
        bestPlace();
        shifts();
        shiftsOfLikeColours();
        halfTurn();
        CHECKS.end();
    }

    private static void constants() {
        begin("the constants");
        due("UNKNOWN", UNKNOWN, -1);
        due("OUT_OF_RANGE", OUT_OF_RANGE, -2);
        due("FULL", FULL, -3);
        due("NOT_POSSIBLE", NOT_POSSIBLE, -4);
        due("NONE", NONE, -5);
    }

    private static void newObject() {
        CarpetCrosses x = begin("1 a new object");
        int[] totals = {0, 0, 150, 0, 0, 1, 150, 0, 0, 0, 0};
        for (int what = 0; what < totals.length; what++) {
            due("total(" + what + ")", x.total(what), totals[what]);
        }
        for (int kind = 0; kind < 6; kind++) {
            for (int arm = 0; arm < 4; arm++) {
                due("colour(" + kind + ", " + arm + ")", x.colour(kind, arm), (kind + arm) % 6);
            }
        }
        due("undo", x.undo(), NONE);
        due("restore", x.restore(), NONE);
        due("clearText", x.clearText(), 0);
        CarpetCrosses other = new CarpetCrosses();
        x.lay(0, 0, 0);
        x.type('k');
        x.keep();
        due("total(0) of another object", other.total(0), 0);
        due("total(9) of another object", other.total(9), 0);
        due("total(10) of another object", other.total(10), 0);
        due("restore of another object", other.restore(), NONE);
    }

    private static void paint() {
        CarpetCrosses x = begin("2 paint");
        due("paint(5, 3, 0)", x.paint(5, 3, 0), 2);
        due("colour(5, 3)", x.colour(5, 3), 0);
        due("colour(5, 2)", x.colour(5, 2), 1);
        due("paint(5, 3, 5)", x.paint(5, 3, 5), 0);
        due("paint(5, 3, 5) again", x.paint(5, 3, 5), NONE);
        due("total(9)", x.total(9), 2);
        for (int wrong : WRONG) {
            due("paint of kind " + wrong, x.paint(wrong, 0, 0), UNKNOWN);
            due("paint of arm " + wrong, x.paint(0, wrong, 0), OUT_OF_RANGE);
            due("paint with colour " + wrong, x.paint(0, 0, wrong), OUT_OF_RANGE);
            due("paint, all wrong", x.paint(wrong, wrong, wrong), UNKNOWN);
        }
        due("paint(6, 0, 0)", x.paint(6, 0, 0), UNKNOWN);
        due("paint(0, 4, 0)", x.paint(0, 4, 0), OUT_OF_RANGE);
        due("paint(0, 0, 6)", x.paint(0, 0, 6), OUT_OF_RANGE);
        due("total(9) then", x.total(9), 2);
        due("lay", x.lay(5, 1, 50), 0);
        due("cell(50 - 15, 2)", x.cell(35, 2), 5);
        due("paint(5, 3, 2)", x.paint(5, 3, 2), 5);
        due("cell(50 - 15, 2) then", x.cell(35, 2), 2);
    }

    /** The right and the lower arm of cross 0 touch the upper and the left one of the one at 17. */
    private static void paintClashes() {
        CarpetCrosses x = beginPlain("2 paint, clashes");
        due("lay(0, 0, 0)", x.lay(0, 0, 0), 0);
        due("lay(1, 0, 17)", x.lay(1, 0, 17), 1);
        int states = x.total(9);
        due("paint(0, 1, 3)", x.paint(0, 1, 3), NOT_POSSIBLE);
        due("paint(1, 3, 3)", x.paint(1, 3, 3), NOT_POSSIBLE);
        due("colour(0, 1)", x.colour(0, 1), 0);
        due("cell(1, 2)", x.cell(1, 2), 0);
        due("paint(0, 1, 0)", x.paint(0, 1, 0), NONE);
        due("total(9)", x.total(9), states);
        due("paint(0, 0, 3)", x.paint(0, 0, 3), 0);
        due("paint(2, 1, 3)", x.paint(2, 1, 3), 0);
        due("setRule(1)", x.setRule(1), NOT_POSSIBLE);
        due("setRule(2)", x.setRule(2), 0);
        due("paint(0, 1, 3) under RULE 2", x.paint(0, 1, 3), 0);
        due("paint(0, 2, 4) under RULE 2", x.paint(0, 2, 4), 0);
        due("setRule(1)", x.setRule(1), 2);
        due("paint(0, 1, 0) under RULE 1", x.paint(0, 1, 0), NOT_POSSIBLE);
        due("paint(0, 2, 0) under RULE 1", x.paint(0, 2, 0), NOT_POSSIBLE);
        due("paint(0, 3, 5) under RULE 1", x.paint(0, 3, 5), 0);
    }

    private static void setRule() {
        CarpetCrosses x = begin("3 setRule");
        due("setRule(0)", x.setRule(0), NONE);
        due("setRule(2)", x.setRule(2), 0);
        due("setRule(1)", x.setRule(1), 2);
        due("total(1)", x.total(1), 1);
        due("setRule(3)", x.setRule(3), OUT_OF_RANGE);
        for (int wrong : WRONG) {
            due("setRule(" + wrong + ")", x.setRule(wrong), OUT_OF_RANGE);
        }
        due("total(9)", x.total(9), 2);
        due("lay(0, 0, 0)", x.lay(0, 0, 0), 0);
        due("lay(0, 0, 17)", x.lay(0, 0, 17), 1);
        due("setRule(0), unlike arms touch", x.setRule(0), NOT_POSSIBLE);
        due("total(1) then", x.total(1), 1);
        due("total(9) then", x.total(9), 4);
        due("setRule(2)", x.setRule(2), 1);
        due("move", x.move(1, 47), 17);
        due("setRule(0), nothing touches", x.setRule(0), 2);
    }

    private static void lay() {
        CarpetCrosses x = begin("4 lay");
        due("lay(5, 3, 149)", x.lay(5, 3, 149), 0);
        due("cross(0, 0)", x.cross(0, 0), 5);
        due("cross(0, 1)", x.cross(0, 1), 3);
        due("cross(0, 2)", x.cross(0, 2), 149);
        due("lay on its middle", x.lay(0, 0, 149), NOT_POSSIBLE);
        due("lay on its lower arm, which is 14", x.lay(0, 0, 14), NOT_POSSIBLE);
        due("lay with the left arm on its right arm 135", x.lay(0, 0, 136), NOT_POSSIBLE);
        due("total(0)", x.total(0), 1);
        due("total(9)", x.total(9), 1);
        due("lay(6, 4, 150)", x.lay(6, 4, 150), UNKNOWN);
        due("lay(6, 0, 0)", x.lay(6, 0, 0), UNKNOWN);
        due("lay(0, 4, 150)", x.lay(0, 4, 150), UNKNOWN);
        due("lay(0, 4, 149)", x.lay(0, 4, 149), OUT_OF_RANGE);
        for (int wrong : WRONG) {
            due("lay of kind " + wrong, x.lay(wrong, 0, 0), UNKNOWN);
            due("lay on cell " + wrong, x.lay(0, 0, wrong), UNKNOWN);
            due("lay with turns " + wrong, x.lay(0, wrong, 0), OUT_OF_RANGE);
        }
        CarpetCrosses y = begin("4 lay, clashes");
        // One at 17 touches it by its upper arm to the right, and by its left arm to the right and below.
        y.paint(0, 2, 1);
        y.lay(0, 0, 0);
        y.paint(1, 3, 2);
        due("lay, above 1, left 2", y.lay(1, 0, 17), NOT_POSSIBLE);
        y.paint(1, 0, 2);
        y.paint(1, 3, 1);
        due("lay, above 2, left 1", y.lay(1, 0, 17), NOT_POSSIBLE);
        y.paint(1, 0, 1);
        due("lay, above 1, left 1", y.lay(1, 0, 17), 1);
        y.take(1);
        y.setRule(1);
        due("lay under RULE 1, above 1, left 1", y.lay(1, 0, 17), NOT_POSSIBLE);
        y.paint(1, 3, 5);
        due("lay under RULE 1, above 1, left 5", y.lay(1, 0, 17), NOT_POSSIBLE);
        due("lay under RULE 1, above 2, left 5", y.lay(2, 0, 17), 1);
    }

    /** Crosses at c + 3r = 0 modulo 5 cover the whole board: there are 30. */
    private static void layOnTheWholeBoard() {
        CarpetCrosses x = beginPlain("4 lay, the whole board");
        int laid = 0;
        for (int cell = 0; cell < 150; cell++) {
            if ((cell % 15 + 3 * (cell / 15)) % 5 == 0) {
                due("lay " + cell, x.lay(laid % 6, laid % 4, cell), laid);
                laid++;
            }
        }
        due("total(0)", x.total(0), 30);
        due("total(2)", x.total(2), 0);
        due("total(3)", x.total(3), 180);
        due("total(4)", x.total(4), 180);
        due("total(5)", x.total(5), 0);
        due("total(6)", x.total(6), 0);
        due("total(7)", x.total(7), 1);
        due("total(8)", x.total(8), 0);
        due("lay", x.lay(0, 0, 0), NOT_POSSIBLE);
        due("fill", x.fill(0), NONE);
        due("reason", x.reason(0, 0, 0), 1);
        due("places", x.places(0), 0);
        due("bestPlace", x.bestPlace(0, 0), NONE);
        due("shifts(0)", x.shifts(0), 30);
        due("shifts(1)", x.shifts(1), 5);
        due("halfTurn", x.halfTurn(), 0);
        due("cross(7, 3)", x.cross(7, 3), 12);
        due("cross(7, 4)", x.cross(7, 4), 4);
        due("move by one", x.move(0, 1), NOT_POSSIBLE);
        due("take(29)", x.take(29), 29);
        due("fill", x.fill(0), 1);
    }

    private static void take() {
        CarpetCrosses x = beginWithRule("5 take", 2);
        x.lay(0, 0, 0);
        x.lay(1, 1, 5);
        x.lay(2, 2, 10);
        due("take(3)", x.take(3), UNKNOWN);
        due("take(-1)", x.take(-1), UNKNOWN);
        for (int wrong : WRONG) {
            due("take(" + wrong + ")", x.take(wrong), UNKNOWN);
        }
        due("total(9)", x.total(9), 4);
        due("take(1)", x.take(1), 2);
        due("cross(0, 0)", x.cross(0, 0), 0);
        due("cross(1, 0)", x.cross(1, 0), 2);
        due("cross(1, 1)", x.cross(1, 1), 2);
        due("cross(1, 2)", x.cross(1, 2), 10);
        due("cell(10, 0)", x.cell(10, 0), 1);
        due("cell(5, 0)", x.cell(5, 0), NONE);
        due("cell(4, 0)", x.cell(4, 0), NONE);
        due("cross(2, 0)", x.cross(2, 0), UNKNOWN);
        due("lay", x.lay(3, 0, 5), 2);
        due("take(0)", x.take(0), 2);
        due("take(0)", x.take(0), 1);
        due("take(0)", x.take(0), 0);
        due("take(0) of none", x.take(0), UNKNOWN);
        due("undo", x.undo(), 3);
        due("cross(0, 0)", x.cross(0, 0), 3);
    }

    private static void turn() {
        CarpetCrosses x = begin("6 turn");
        due("turn of none", x.turn(0, 1), UNKNOWN);
        x.lay(0, 2, 77);
        due("turn(0, 3)", x.turn(0, 3), 1);
        due("cell above", x.cell(62, 2), 3);
        due("cell to the right", x.cell(78, 2), 0);
        due("cell below", x.cell(92, 2), 1);
        due("cell to the left", x.cell(76, 2), 2);
        due("turn(0, 1)", x.turn(0, 1), 2);
        due("turn(0, 2)", x.turn(0, 2), 0);
        due("cross(0, 1)", x.cross(0, 1), 0);
        due("turn(0, 0)", x.turn(0, 0), OUT_OF_RANGE);
        due("turn(0, 4)", x.turn(0, 4), OUT_OF_RANGE);
        due("turn(1, 4)", x.turn(1, 4), UNKNOWN);
        for (int wrong : WRONG) {
            due("turn of " + wrong, x.turn(wrong, 1), UNKNOWN);
            due("turn by " + wrong, x.turn(0, wrong), OUT_OF_RANGE);
        }
        due("total(9)", x.total(9), 4);
        CarpetCrosses y = beginPlain("6 turn, clashes");
        y.lay(0, 0, 0);
        y.lay(1, 0, 17);
        y.paint(1, 1, 4);
        due("turn(1, 1): its 4 comes below", y.turn(1, 1), 1);
        due("turn(1, 1): its 4 would come to the left", y.turn(1, 1), NOT_POSSIBLE);
        due("turn(1, 2): its 4 would come above", y.turn(1, 2), NOT_POSSIBLE);
        due("cross(1, 1)", y.cross(1, 1), 1);
        due("turn(1, 3)", y.turn(1, 3), 0);
        due("turn(0, 2), nothing looks different", y.turn(0, 2), 2);
    }

    private static void move() {
        CarpetCrosses x = beginPlain("7 move");
        x.lay(0, 3, 0);
        x.lay(1, 2, 20);
        due("move to where it is", x.move(0, 0), NONE);
        due("move by one, over itself", x.move(0, 1), 0);
        due("cross(0, 2)", x.cross(0, 2), 1);
        due("cross(0, 1)", x.cross(0, 1), 3);
        due("cell(14, 0)", x.cell(14, 0), NONE);
        due("cell(2, 1)", x.cell(2, 1), 1);
        due("move round the edge", x.move(0, 149), 1);
        due("cell(14, 1)", x.cell(14, 1), 2);
        due("cell(135, 1)", x.cell(135, 1), 1);
        due("move onto another", x.move(0, 20), NOT_POSSIBLE);
        due("move onto an arm of another", x.move(0, 35), NOT_POSSIBLE);
        due("move an arm onto another", x.move(0, 18), NOT_POSSIBLE);
        due("move(2, 0)", x.move(2, 0), UNKNOWN);
        due("move(0, 150)", x.move(0, 150), UNKNOWN);
        for (int wrong : WRONG) {
            due("move of " + wrong, x.move(wrong, 0), UNKNOWN);
            due("move to " + wrong, x.move(0, wrong), UNKNOWN);
        }
        due("cross(0, 2) then", x.cross(0, 2), 149);
        due("move(1, 0) onto an arm's cell", x.move(1, 0), NOT_POSSIBLE);
        due("move(1, 50)", x.move(1, 50), 20);
        due("cell(50, 0)", x.cell(50, 0), 1);
        x.paint(1, 0, 3);
        // Its arm 0, in colour 3, is below. At 132 its lower arm touches the other, at 1 its upper one.
        due("move to a clash", x.move(1, 132), NOT_POSSIBLE);
        due("cross(1, 2) then", x.cross(1, 2), 50);
        due("move to no clash", x.move(1, 1), 50);
        due("total(3)", x.total(3), 3);
    }

    private static void shift() {
        CarpetCrosses x = begin("8 shift");
        due("shift(0, 0) of none", x.shift(0, 0), 0);
        due("total(9)", x.total(9), 1);
        x.lay(2, 1, 149);
        due("shift(1, 0)", x.shift(1, 0), 1);
        due("cross(0, 2)", x.cross(0, 2), 135);
        due("shift(0, 1)", x.shift(0, 1), 1);
        due("cross(0, 2) then", x.cross(0, 2), 0);
        due("cross(0, 0)", x.cross(0, 0), 2);
        due("cross(0, 1)", x.cross(0, 1), 1);
        x.lay(3, 0, 80);
        due("shift(14, 9)", x.shift(14, 9), 2);
        due("cross(0, 2) at last", x.cross(0, 2), 149);
        due("cross(1, 2) at last", x.cross(1, 2), 64);
        due("cell(64, 0)", x.cell(64, 0), 1);
        due("cell(80, 0)", x.cell(80, 0), NONE);
        due("shift(15, 0)", x.shift(15, 0), OUT_OF_RANGE);
        due("shift(0, 10)", x.shift(0, 10), OUT_OF_RANGE);
        for (int wrong : WRONG) {
            due("shift by columns " + wrong, x.shift(wrong, 0), OUT_OF_RANGE);
            due("shift by rows " + wrong, x.shift(0, wrong), OUT_OF_RANGE);
        }
        due("shift(0, 0)", x.shift(0, 0), 2);
        due("undo", x.undo(), 3);
        due("undo", x.undo(), 2);
        due("cross(0, 2) before", x.cross(0, 2), 0);
    }

    private static void fill() {
        CarpetCrosses x = begin("9 fill");
        for (int wrong : WRONG) {
            due("fill(" + wrong + ")", x.fill(wrong), UNKNOWN);
        }
        due("fill(6)", x.fill(6), UNKNOWN);
        due("total(9)", x.total(9), 0);
        CarpetCrosses z = beginWithRule("9 fill of the empty board", 2);
        due("fill(0)", z.fill(0), 25);
        due("cross(0, 2)", z.cross(0, 2), 0);
        due("cross(1, 2)", z.cross(1, 2), 3);
        due("total(0)", z.total(0), 25);
        CarpetCrosses y = beginWithRule("9 fill, RULE 2", 2);
        y.lay(1, 0, 16);
        due("total(9)", y.total(9), 2);
        int laid = y.fill(4);
        due("one change", y.total(9), 3);
        due("total(0)", y.total(0), laid + 1);
        // 0 to 2 would lie over the one at 16; so the first cell at which one fits is 3.
        due("cross(1, 2)", y.cross(1, 2), 3);
        due("cross(1, 0)", y.cross(1, 0), 4);
        due("cross(1, 1)", y.cross(1, 1), 0);
        due("places(4)", y.places(4), 0);
        due("fill again", y.fill(4), NONE);
        due("total(9) then", y.total(9), 3);
        due("undo", y.undo(), 2);
        due("total(0)", y.total(0), 1);
    }

    /** Kind 0 is in colour 0, but for its arm 0; the one that lies there is in colour 0. */
    private static void fillWithTurns() {
        CarpetCrosses x = beginPlain("9 fill with turns");
        x.paint(0, 0, 1);
        x.lay(1, 0, 0);
        due("reason(0, 0, 17)", x.reason(0, 0, 17), 3);
        due("reason(0, 1, 17)", x.reason(0, 1, 17), 0);
        int laid = x.fill(0);
        due("total(0)", x.total(0), laid + 1);
        // 3 has its left arm alone beside the other's right one: no turn is due.
        due("cross(1, 2)", x.cross(1, 2), 3);
        due("cross(1, 1)", x.cross(1, 1), 0);
        due("places(0)", x.places(0), 0);
        CarpetCrosses y = beginPlain("9 fill with turns, the left arm");
        y.paint(0, 3, 1);
        y.lay(1, 0, 0);
        y.fill(0);
        due("cross(1, 2)", y.cross(1, 2), 3);
        due("cross(1, 1)", y.cross(1, 1), 1);
    }

    private static void typeAndClear() {
        CarpetCrosses x = begin("10 type");
        due("type", x.type('\0'), 1);
        due("type", x.type('\uffff'), 2);
        for (int length = 3; length <= 60; length++) {
            due("type", x.type('7'), length);
        }
        due("type of the 61st", x.type('8'), FULL);
        due("total(10)", x.total(10), 60);
        due("total(9)", x.total(9), 0);
        about = "11 clearText";
        due("clearText", x.clearText(), 60);
        due("clearText again", x.clearText(), 0);
        due("total(10)", x.total(10), 0);
        due("total(9)", x.total(9), 0);
        due("type", x.type('-'), 1);
        due("perform of the new text", x.perform(), -101);
        due("undo", x.undo(), NONE);
        x.lay(0, 0, 0);
        due("undo leaves the text", x.undo(), 0);
        due("total(10)", x.total(10), 1);
    }

    private static void performFaults() {
        CarpetCrosses x = begin("12 perform, faults");
        x.lay(0, 0, 75);
        String[] texts = {"", "x", " k", ";", "@", "K00000", "k", "k6", "k:", "k/", "k0", "k06", "k0123",
            "k012345", "k0000/", "+", "+6", "+04", "+0-", "+00", "+00-", "+00@", "+00@;", "+00@150",
            "+00@00", "+00@01", "+00@1490", "-", "-a", "-:", "-/", "-75;", "-75;;", "-75 ", "-75,", "-750",
            "t", "t75;t", "t200", "t160", "t1000", "t99;-99;k0000"};
        int[] faults = {0, 0, 0, 0, 0, 0, 1, 1, 1, 1, 2, 2, 5,
            6, 5, 1, 1, 2, 2, 3, 3, 4, 4, 6,
            5, 5, 7, 1, 1, 1, 1, 4, 4, 3, 3, 3,
            1, 5, 3, 3, 4, 13};
        due("as many faults as texts", faults.length, texts.length);
        for (int i = 0; i < texts.length; i++) {
            due("perform of " + texts[i], performed(x, texts[i]), -100 - faults[i]);
        }
        due("total(9)", x.total(9), 1);
        write(x, "-75;-\u0661");
        due("a digit of another script", x.perform(), -105);
        write(x, "-7\u0135");
        due("a sign above 255", x.perform(), -102);
        // 59 signs are an order and 57 more; the 60th is the separator, behind which there is no room.
        String full = "t75;t75;t75;t75;t75;t75;t75;t75;t75;t75;t75;t75;t75;t75;t75;";
        due("length", full.length(), 60);
        due("perform of 60 signs that end too early", performed(x, full), -160);
        due("cross(0, 1)", x.cross(0, 1), 0);
        due("a fault goes before an error", performed(x, "-0;-"), -104);
        due("a number above 149", performed(x, "-155"), -103);
        due("a number above 149", performed(x, "t159;-0"), -103);
        due("the greatest numbers", performed(x, "k55555;+53@149"), 2);
        due("colour(5, 3)", x.colour(5, 3), 5);
        due("cross(1, 2)", x.cross(1, 2), 149);
        due("an order without a separator", performed(x, "-75t75"), -103);
        due("an order without a separator, then more", performed(x, "k00000+00@0;t1"), -106);
    }

    private static void performOrders() {
        CarpetCrosses x = beginWithRule("12 perform", 2);
        due("perform", performed(x, "+00@0;+51@149;k54321;t149"), NOT_POSSIBLE);
        due("total(0)", x.total(0), 0);
        due("perform", performed(x, "+00@0;+51@34;k54321;t49;t33"), 5);
        due("total(0)", x.total(0), 2);
        due("total(9)", x.total(9), 2);
        due("total(10), the text stays", x.total(10), 27);
        due("cross(1, 0)", x.cross(1, 0), 5);
        due("cross(1, 1)", x.cross(1, 1), 3);
        due("cross(1, 2)", x.cross(1, 2), 34);
        due("colour(5, 0)", x.colour(5, 0), 4);
        due("colour(5, 3)", x.colour(5, 3), 1);
        due("perform of the same", x.perform(), NOT_POSSIBLE);
        due("perform -", performed(x, "-1"), 1);
        due("cross(0, 0)", x.cross(0, 0), 5);
        due("perform, nothing is different", performed(x, "k54321"), 1);
        due("total(9), it is a change all the same", x.total(9), 4);
        due("undo", x.undo(), 3);
        due("undo", x.undo(), 2);
        due("total(0)", x.total(0), 2);
        due("undo", x.undo(), 1);
        due("colour(5, 0)", x.colour(5, 0), 5);
        due("undo", x.undo(), 0);
        due("total(1)", x.total(1), 0);
        String twenty = "-0;+00@0;-0;+00@0;-0;+00@0;-0;+00@0;-0;+00@0;-0;t0";
        due("an error in the first", performed(x, twenty), UNKNOWN);
        x.lay(3, 0, 14);
        due("perform", performed(x, "-0;+00@0;-0;+00@0;-0;+00@0;-0;+00@0;-0;+00@0;-0"), 11);
        due("total(0)", x.total(0), 0);
        due("perform of 15 orders", performed(x,
                "+00@7;t7;t7;t7;t7;t7;t7;t7;t7;t7;t7;t7;t7;t7;t7;t7;t7;t7"), 18);
        due("cross(0, 1)", x.cross(0, 1), 1);
    }

    private static void performErrors() {
        CarpetCrosses x = beginPlain("12 perform, errors");
        x.lay(0, 0, 0);
        x.lay(1, 0, 17);
        due("- of a free cell", performed(x, "k01000;-75"), UNKNOWN);
        due("colour(0, 0)", x.colour(0, 0), 0);
        due("t of a free cell", performed(x, "t75"), UNKNOWN);
        due("k that clashes", performed(x, "k00100"), NOT_POSSIBLE);
        due("k that clashes not", performed(x, "k01000"), 1);
        due("t that clashes", performed(x, "t15"), NOT_POSSIBLE);
        due("the first error of two", performed(x, "t15;-75"), NOT_POSSIBLE);
        due("the first error of two", performed(x, "-75;t15"), UNKNOWN);
        due("all or none", performed(x, "-17;t15;t75"), UNKNOWN);
        due("total(0)", x.total(0), 2);
        due("cell(17, 0)", x.cell(17, 0), 1);
        due("cross(0, 1)", x.cross(0, 1), 0);
        due("+ over another", performed(x, "+00@1"), NOT_POSSIBLE);
        due("- and then t", performed(x, "-17;t15"), 2);
        due("cross(0, 1)", x.cross(0, 1), 1);
        due("undo", x.undo(), 3);
        due("k, all four colours at once", performed(x, "k11000;k02222"), NOT_POSSIBLE);
        CarpetCrosses y = begin("12 perform, k at once");
        // Cross 1's arms above and to the left touch the arms to the right and below of cross 0.
        y.paint(0, 0, 3);
        y.paint(0, 1, 3);
        y.paint(0, 2, 3);
        y.lay(0, 0, 0);
        due("lay", y.lay(0, 0, 17), 1);
        due("paint, one alone clashes", y.paint(0, 0, 1), NOT_POSSIBLE);
        due("k, all of them do not", performed(y, "k01111"), 1);
        due("colour(0, 2)", y.colour(0, 2), 1);
    }

    private static void undo() {
        CarpetCrosses x = begin("13 undo");
        due("undo of nothing", x.undo(), NONE);
        x.lay(0, 0, 0);
        x.paint(0, 0, 5);
        x.setRule(1);
        x.turn(0, 2);
        x.move(0, 20);
        due("total(9)", x.total(9), 4);
        due("undo", x.undo(), 3);
        due("cross(0, 2)", x.cross(0, 2), 0);
        due("cell(20, 0)", x.cell(20, 0), NONE);
        due("cell(0, 0)", x.cell(0, 0), 0);
        due("undo", x.undo(), 2);
        due("cross(0, 1)", x.cross(0, 1), 0);
        due("undo", x.undo(), 1);
        due("total(1)", x.total(1), 0);
        due("undo", x.undo(), 0);
        due("colour(0, 0)", x.colour(0, 0), 0);
        due("undo, the oldest was dropped", x.undo(), NONE);
        due("total(0)", x.total(0), 1);
        due("lay", x.lay(1, 0, 75), 1);
        due("undo", x.undo(), 0);
        due("cross(1, 0)", x.cross(1, 0), UNKNOWN);
    }

    private static void history() {
        CarpetCrosses x = beginWithRule("the history", 2);
        for (int i = 0; i < 7; i++) {
            x.shift(1, 0);
        }
        due("total(9)", x.total(9), 4);
        x.undo();
        x.undo();
        due("total(9) after two", x.total(9), 2);
        x.lay(0, 0, 0);
        due("total(9), a change after undo", x.total(9), 3);
        x.keep();
        x.type('k');
        x.perform();
        x.clearText();
        x.reason(0, 0, 0);
        x.bestPlace(0, 0);
        x.total(5);
        x.shifts(1);
        x.halfTurn();
        due("total(9), no changes", x.total(9), 3);
        x.move(0, 0);
        x.setRule(2);
        x.paint(0, 0, 0);
        x.lay(0, 0, 0);
        x.take(4);
        due("total(9), errors and NONE", x.total(9), 3);
        x.restore();
        due("total(9), restore", x.total(9), 4);
    }

    private static void keepAndRestore() {
        CarpetCrosses x = beginWithRule("14 keep", 2);
        due("keep of none", x.keep(), 0);
        x.lay(0, 1, 0);
        x.lay(1, 0, 5);
        due("keep", x.keep(), 2);
        due("total(9)", x.total(9), 3);
        x.paint(2, 2, 2);
        x.paint(1, 0, 3);
        x.setRule(0);
        x.take(0);
        x.move(0, 77);
        about = "15 restore";
        due("restore", x.restore(), 2);
        due("cross(0, 1)", x.cross(0, 1), 1);
        due("cross(1, 2)", x.cross(1, 2), 5);
        due("cell(77, 0)", x.cell(77, 0), NONE);
        due("cell(5, 0)", x.cell(5, 0), 1);
        due("colour(2, 2)", x.colour(2, 2), 4);
        due("colour(1, 0)", x.colour(1, 0), 1);
        due("total(1)", x.total(1), 2);
        due("total(9)", x.total(9), 4);
        due("undo of restore", x.undo(), 3);
        due("total(0)", x.total(0), 1);
        due("cross(0, 2)", x.cross(0, 2), 77);
        due("cell(77, 0)", x.cell(77, 0), 0);
        due("colour(2, 2)", x.colour(2, 2), 2);
        due("restore again, the snapshot stays", x.restore(), 2);
        x.take(1);
        x.take(0);
        due("restore after changes", x.restore(), 2);
        due("keep in place of the earlier one", x.keep(), 2);
        x.take(0);
        x.keep();
        due("restore of the later one", x.restore(), 1);
        x.clearText();
        x.type('k');
        due("restore leaves the text", x.restore(), 1);
        due("total(10)", x.total(10), 1);
        CarpetCrosses y = begin("15 restore without a snapshot");
        due("restore", y.restore(), NONE);
        due("total(9)", y.total(9), 0);
        due("keep of the empty board", y.keep(), 0);
        y.lay(0, 0, 0);
        due("restore of the empty board", y.restore(), 0);
        due("total(0)", y.total(0), 0);
        due("cell(0, 0)", y.cell(0, 0), NONE);
    }

    private static void colour() {
        CarpetCrosses x = begin("16 colour");
        due("colour(5, 1)", x.colour(5, 1), 0);
        due("colour(6, 0)", x.colour(6, 0), UNKNOWN);
        due("colour(6, 4)", x.colour(6, 4), UNKNOWN);
        due("colour(5, 4)", x.colour(5, 4), OUT_OF_RANGE);
        for (int wrong : WRONG) {
            due("colour(" + wrong + ", 0)", x.colour(wrong, 0), UNKNOWN);
            due("colour(0, " + wrong + ")", x.colour(0, wrong), OUT_OF_RANGE);
        }
        x.paint(5, 1, 4);
        due("colour(5, 1) then", x.colour(5, 1), 4);
        due("colour(4, 1)", x.colour(4, 1), 5);
    }

    private static void cell() {
        CarpetCrosses x = beginWithRule("17 cell", 2);
        x.lay(2, 3, 40);
        x.lay(4, 1, 149);
        int[] cells = {149, 134, 135, 14, 148};
        int[] parts = {4, 0, 1, 2, 3};
        // Turned by 1, the arm d - 1 is in the direction d; the arm a of kind 4 is in 4 + a modulo 6.
        int[] colours = {NONE, 1, 4, 5, 0};
        for (int i = 0; i < cells.length; i++) {
            due("cell(" + cells[i] + ", 0)", x.cell(cells[i], 0), 1);
            due("cell(" + cells[i] + ", 1)", x.cell(cells[i], 1), parts[i]);
            due("cell(" + cells[i] + ", 2)", x.cell(cells[i], 2), colours[i]);
            due("cell(" + cells[i] + ", 3)", x.cell(cells[i], 3), i == 0 ? 0 : 3);
        }
        for (int what = 0; what < 3; what++) {
            due("cell(100, " + what + ")", x.cell(100, what), NONE);
        }
        due("cell(100, 3)", x.cell(100, 3), 4);
        due("cell(0, 3), below 135, to the right of 14", x.cell(0, 3), 2);
        due("cell(13, 3), below 148, to the left of 14", x.cell(13, 3), 2);
        due("cell(12, 3)", x.cell(12, 3), 4);
        due("cell(0, 4)", x.cell(0, 4), OUT_OF_RANGE);
        due("cell(150, 4)", x.cell(150, 4), UNKNOWN);
        for (int wrong : WRONG) {
            due("cell(" + wrong + ", 0)", x.cell(wrong, 0), UNKNOWN);
            due("cell(0, " + wrong + ")", x.cell(0, wrong), OUT_OF_RANGE);
            due("cell(149, " + wrong + ")", x.cell(149, wrong), OUT_OF_RANGE);
        }
        x.take(0);
        due("cell(149, 0) then", x.cell(149, 0), 0);
    }

    private static void cross() {
        CarpetCrosses x = beginPlain("18 cross");
        x.lay(3, 2, 0);
        int[] alone = {3, 2, 0, 0, 0, 4, 4};
        for (int what = 0; what < alone.length; what++) {
            due("cross(0, " + what + ") alone", x.cross(0, what), alone[what]);
        }
        x.lay(4, 0, 17);
        x.lay(5, 0, 12);
        // 0 touches 17 to the right (twice) and below, and 12 to the left.
        int[] among = {3, 2, 0, 4, 2, 1, 4};
        for (int what = 0; what < among.length; what++) {
            due("cross(0, " + what + ") among", x.cross(0, what), among[what]);
        }
        due("cross(1, 5)", x.cross(1, 5), 2);
        due("cross(2, 3)", x.cross(2, 3), 1);
        due("cross(2, 4)", x.cross(2, 4), 1);
        due("cross(2, 5)", x.cross(2, 5), 3);
        x.paint(5, 0, 1);
        due("cross(2, 6), one arm may not come to the right", x.cross(2, 6), 3);
        x.paint(4, 1, 1);
        due("cross(1, 6), one arm may not come above and to the left", x.cross(1, 6), 2);
        due("cross(0, 6)", x.cross(0, 6), 4);
        due("cross(0, 7)", x.cross(0, 7), OUT_OF_RANGE);
        due("cross(3, 0)", x.cross(3, 0), UNKNOWN);
        due("cross(3, 7)", x.cross(3, 7), UNKNOWN);
        for (int wrong : WRONG) {
            due("cross(" + wrong + ", 0)", x.cross(wrong, 0), UNKNOWN);
            due("cross(0, " + wrong + ")", x.cross(0, wrong), OUT_OF_RANGE);
        }
        x.paint(5, 0, 0);
        x.paint(4, 1, 0);
        x.setRule(2);
        x.paint(3, 0, 1);
        due("cross(0, 6) under RULE 2", x.cross(0, 6), 4);
    }

    /** Crosses two apart one way and one apart the other touch three times, three apart once. */
    private static void crossTouches() {
        CarpetCrosses x = beginPlain("18 cross, touches");
        x.lay(0, 0, 32);
        x.lay(0, 0, 50);
        due("cross(0, 3), three apart and one lower", x.cross(0, 3), 0);
        x.move(1, 64);
        due("cross(0, 3), two apart and two lower", x.cross(0, 3), 0);
        x.move(1, 49);
        // The right arm 33 is beside the upper arm 34 and the left one 48, the lower arm 47 beside 48.
        due("cross(0, 3), two apart and one lower", x.cross(0, 3), 3);
        due("cross(0, 4), two apart and one lower", x.cross(0, 4), 1);
        due("cross(0, 5), two apart and one lower", x.cross(0, 5), 2);
        x.move(1, 35);
        due("cross(0, 3), three apart", x.cross(0, 3), 1);
        x.move(1, 77);
        due("cross(0, 3), three lower", x.cross(0, 3), 1);
        due("cross(0, 4), three lower", x.cross(0, 4), 1);
        due("cross(1, 4), three higher", x.cross(1, 4), 1);
        x.move(1, 44);
        due("cross(0, 4), three apart round the edge", x.cross(0, 4), 1);
        due("cross(1, 4), three apart round the edge", x.cross(1, 4), 1);
        x.move(1, 36);
        due("cross(0, 3), four apart", x.cross(0, 3), 0);
        due("lay of a third", x.lay(0, 0, 49), 2);
        due("cross(2, 3), between both", x.cross(2, 3), 6);
        due("cross(2, 4), between both", x.cross(2, 4), 2);
        due("cross(2, 5), between both", x.cross(2, 5), 1);
        due("cross(0, 3), between both", x.cross(0, 3), 3);
        due("total(3)", x.total(3), 6);
        due("total(8)", x.total(8), 0);
    }

    private static void total() {
        CarpetCrosses x = beginWithRule("19 total", 2);
        x.lay(0, 0, 0);
        x.lay(0, 0, 17);
        x.lay(0, 0, 7);
        due("total(0)", x.total(0), 3);
        due("total(1)", x.total(1), 2);
        due("total(2)", x.total(2), 135);
        due("total(3)", x.total(3), 3);
        due("total(4): 1 at 0 and 3, 2 at 3", x.total(4), 0);
        x.paint(0, 3, 2);
        due("total(4): 1 at 0 and 2, 2 at 2", x.total(4), 1);
        due("total(5)", x.total(5), 1);
        due("total(6)", x.total(6), 135);
        due("total(7)", x.total(7), 2);
        due("total(8)", x.total(8), 1);
        due("total(9)", x.total(9), 4);
        x.type('a');
        due("total(10)", x.total(10), 1);
        x.lay(0, 0, 4);
        due("total(7), all by others", x.total(7), 1);
        due("total(8), all by others", x.total(8), 0);
        due("total(11)", x.total(11), OUT_OF_RANGE);
        for (int wrong : WRONG) {
            due("total(" + wrong + ")", x.total(wrong), OUT_OF_RANGE);
        }
    }

    /** Rings of crosses that cut the board, and four of them that make holes. */
    private static void totalOfRegions() {
        CarpetCrosses x = beginPlain("19 total of regions");
        for (int column = 0; column < 15; column += 3) {
            x.lay(0, 0, column);
        }
        due("total(5), a ring leaves one region", x.total(5), 1);
        due("total(6)", x.total(6), 125);
        due("total(7)", x.total(7), 1);
        for (int column = 0; column < 15; column += 3) {
            x.lay(0, 0, 75 + column);
        }
        due("total(5), two rings leave two", x.total(5), 2);
        due("total(6), rows 1 to 4, and 6 to 9", x.total(6), 50);
        due("total(7)", x.total(7), 2);
        due("total(3)", x.total(3), 10);
        x.take(9);
        due("total(5), a ring that is open", x.total(5), 1);
        due("total(6)", x.total(6), 105);
        CarpetCrosses y = beginPlain("19 total, a hole");
        // About the cell (5, 5); the four cells that are diagonal to it are holes, too.
        y.lay(0, 0, 15 * 3 + 5);
        y.lay(0, 0, 15 * 5 + 7);
        y.lay(0, 0, 15 * 7 + 5);
        due("total(5), two are closed", y.total(5), 3);
        y.lay(0, 0, 15 * 5 + 3);
        due("total(5), five are closed", y.total(5), 6);
        due("total(6)", y.total(6), 125);
        due("cell(80, 3)", y.cell(80, 3), 0);
        y.shift(10, 5);
        due("cell(0, 3)", y.cell(0, 3), 0);
        due("total(5), one is the cell 0", y.total(5), 6);
        due("total(6), one is the cell 0", y.total(6), 125);
    }

    private static void reason() {
        CarpetCrosses x = begin("20 reason");
        x.lay(0, 0, 0);
        due("on its middle", x.reason(0, 0, 0), 1);
        due("on its arm", x.reason(0, 0, 1), 1);
        due("an arm on its arm", x.reason(0, 0, 2), 2);
        due("diagonal", x.reason(0, 0, 16), 2);
        due("a clash", x.reason(0, 0, 17), 3);
        due("elsewhere", x.reason(0, 0, 75), 0);
        due("it touches by one arm, unlike", x.reason(0, 0, 3), 3);
        // The right arm is in colour 1; turned by 2, the left arm is the arm 1.
        due("it touches by one arm, alike", x.reason(0, 2, 3), 0);
        x.setRule(1);
        due("RULE 1, it touches by one arm, unlike", x.reason(0, 0, 3), 0);
        due("RULE 1, it touches by one arm, alike", x.reason(0, 2, 3), 3);
        x.setRule(2);
        due("RULE 2, it touches by one arm, alike", x.reason(0, 2, 3), 0);
        due("reason(6, 4, 150)", x.reason(6, 4, 150), UNKNOWN);
        due("reason(0, 4, 150)", x.reason(0, 4, 150), UNKNOWN);
        due("reason(6, 4, 0)", x.reason(6, 4, 0), UNKNOWN);
        due("reason(0, 4, 0)", x.reason(0, 4, 0), OUT_OF_RANGE);
        for (int wrong : WRONG) {
            due("reason of kind " + wrong, x.reason(wrong, 0, 0), UNKNOWN);
            due("reason on cell " + wrong, x.reason(0, 0, wrong), UNKNOWN);
            due("reason with turns " + wrong, x.reason(0, wrong, 75), OUT_OF_RANGE);
        }
        due("total(0), nothing changes", x.total(0), 1);
    }

    private static void places() {
        CarpetCrosses x = beginWithRule("21 places", 2);
        due("places of the empty board", x.places(5), 600);
        x.lay(0, 0, 77);
        // A middle cannot be at a distance of 2 or less: 13 cells.
        due("places beside one", x.places(3), 4 * 137);
        x.setRule(0);
        // At a distance of 3 it touches: at 8 cells by more than one colour, at 4 by one arm of cross 0,
        // which show 0, 1, 2 and 3. Kind 4 has 4, 5, 0 and 1.
        due("places under RULE 0", x.places(0), 4 * (137 - 12) + 4);
        due("places of a kind with two of its colours", x.places(4), 4 * (137 - 12) + 2);
        due("places(6)", x.places(6), UNKNOWN);
        for (int wrong : WRONG) {
            due("places(" + wrong + ")", x.places(wrong), UNKNOWN);
        }
    }

    private static void bestPlace() {
        CarpetCrosses x = beginPlain("22 bestPlace");
        due("bestPlace(0, 0)", x.bestPlace(0, 0), 0);
        due("bestPlace(0, 1)", x.bestPlace(0, 1), 0);
        x.lay(0, 0, 77);
        // Of the cells that touch three times, (1, 3) is the lowest.
        due("bestPlace(1, 0)", x.bestPlace(1, 0), 4 * (15 * 3 + 1));
        due("bestPlace(1, 1)", x.bestPlace(1, 1), 3);
        x.paint(1, 2, 5);
        // The arm 2, in another colour, may not come to the right or below, where the touches are.
        due("bestPlace(1, 0), turned", x.bestPlace(1, 0), 4 * (15 * 3 + 1) + 1);
        x.lay(0, 0, 15 * 5 + 6);
        // Between both, at (4, 4) and (4, 6), there are three touches with each.
        due("bestPlace(0, 0), between", x.bestPlace(0, 0), 4 * (15 * 4 + 4));
        due("bestPlace(0, 1), between", x.bestPlace(0, 1), 6);
        due("bestPlace(0, 2)", x.bestPlace(0, 2), OUT_OF_RANGE);
        due("bestPlace(6, 0)", x.bestPlace(6, 0), UNKNOWN);
        due("bestPlace(6, 2)", x.bestPlace(6, 2), UNKNOWN);
        for (int wrong : WRONG) {
            due("bestPlace(" + wrong + ", 0)", x.bestPlace(wrong, 0), UNKNOWN);
            due("bestPlace(0, " + wrong + ")", x.bestPlace(0, wrong), OUT_OF_RANGE);
        }
        CarpetCrosses y = beginPlain("22 bestPlace, the cell 0");
        y.lay(0, 0, 17);
        due("bestPlace(0, 0)", y.bestPlace(0, 0), 0);
        due("bestPlace(0, 1)", y.bestPlace(0, 1), 3);
        about = "22 bestPlace";
        x.fill(0);
        due("bestPlace(0, 0) without", x.bestPlace(0, 0), NONE);
        due("bestPlace(0, 1) without", x.bestPlace(0, 1), NONE);
        due("bestPlace(0, 2) without", x.bestPlace(0, 2), OUT_OF_RANGE);
    }

    private static void shifts() {
        CarpetCrosses x = beginWithRule("23 shifts", 2);
        due("shifts(0) of none", x.shifts(0), 150);
        due("shifts(1) of none", x.shifts(1), 1);
        x.lay(0, 0, 149);
        due("shifts(0) of one", x.shifts(0), 1);
        due("shifts(1) of one", x.shifts(1), NONE);
        x.lay(0, 0, 149 - 75);
        due("shifts(0) of two", x.shifts(0), 2);
        due("shifts(1) of two", x.shifts(1), 75);
        x.turn(1, 1);
        due("shifts(0), one is turned", x.shifts(0), 1);
        x.turn(0, 1);
        due("shifts(0), both are turned", x.shifts(0), 2);
        due("shifts(2)", x.shifts(2), OUT_OF_RANGE);
        for (int wrong : WRONG) {
            due("shifts(" + wrong + ")", x.shifts(wrong), OUT_OF_RANGE);
        }
        CarpetCrosses y = beginWithRule("23 shifts, rows and columns", 2);
        y.lay(0, 0, 20);
        y.lay(0, 0, 25);
        due("shifts(0), one is not there", y.shifts(0), 1);
        due("shifts(1), one is not there", y.shifts(1), NONE);
        y.lay(0, 0, 15);
        due("shifts(0), by 5 columns", y.shifts(0), 3);
        due("shifts(1), by 5 columns", y.shifts(1), 5);
        y.lay(0, 0, 15 * 6);
        y.lay(0, 0, 15 * 6 + 5);
        y.lay(0, 0, 15 * 6 + 10);
        due("shifts(0), by 5 rows, too", y.shifts(0), 6);
        y.take(1);
        y.take(0);
        y.take(1);
        due("shifts(0), some are gone", y.shifts(0), 1);
    }

    /** The kind does not matter, nor do the quarter turns: only what is seen does. */
    private static void shiftsOfLikeColours() {
        CarpetCrosses x = beginWithRule("23 shifts of like colours", 2);
        due("perform", performed(x, "k01234;k14123;+00@0;+13@75"), 4);
        due("shifts(0)", x.shifts(0), 2);
        due("shifts(1)", x.shifts(1), 75);
        due("k14123 turned by 2 shows others", x.turn(1, 3), 2);
        due("shifts(0) then", x.shifts(0), 1);
        due("shifts(1) then", x.shifts(1), NONE);
        for (int arm = 0; arm < 4; arm++) {
            CarpetCrosses z = beginWithRule("23 shifts, one arm is unlike", 2);
            due("perform", performed(z, "k00000;k10000;+00@0;+10@75"), 4);
            due("shifts(0), all are alike", z.shifts(0), 2);
            due("halfTurn, all are alike", z.halfTurn(), 0);
            due("paint", z.paint(1, arm, 1), 0);
            due("shifts(0), the arm " + arm, z.shifts(0), 1);
            due("halfTurn, the arm " + arm, z.halfTurn(), NONE);
        }
        CarpetCrosses y = beginWithRule("23 shifts, part upon part", 2);
        y.paint(0, 0, 5);
        y.paint(0, 1, 5);
        y.paint(0, 2, 5);
        y.paint(0, 3, 5);
        y.lay(0, 0, 0);
        y.lay(0, 1, 3);
        due("shifts(0), one comes upon the other alone", y.shifts(0), 1);
    }

    private static void halfTurn() {
        CarpetCrosses x = beginWithRule("24 halfTurn", 2);
        due("halfTurn of none", x.halfTurn(), 0);
        x.lay(0, 0, 0);
        due("halfTurn of one that shows others", x.halfTurn(), NONE);
        due("perform", performed(x, "k03131"), 1);
        due("halfTurn of 3, 1, 3, 1", x.halfTurn(), 0);
        x.move(0, 17);
        // From (2, 1) to (13, 9), and from there by 4 columns and 2 rows.
        due("halfTurn of (2, 1)", x.halfTurn(), 34);
        x.move(0, 149);
        // From (14, 9) to (1, 1), and from there by 13 columns and 8 rows.
        due("halfTurn of (14, 9)", x.halfTurn(), 15 * 8 + 13);
        CarpetCrosses y = beginWithRule("24 halfTurn of two", 2);
        y.lay(0, 0, 17);
        y.lay(0, 2, 20);
        // From (2, 1), (5, 1) to (13, 9), (10, 9), and from there by 7 columns and 2 rows.
        due("halfTurn", y.halfTurn(), 37);
        due("shifts(0)", y.shifts(0), 1);
        y.turn(1, 2);
        due("halfTurn, both the same way", y.halfTurn(), NONE);
        y.turn(1, 1);
        due("halfTurn, a quarter", y.halfTurn(), NONE);
        CarpetCrosses z = beginWithRule("24 halfTurn, another kind", 2);
        due("perform", performed(z, "k52301;k40123;+50@0;+40@80"), 4);
        due("halfTurn", z.halfTurn(), 80);
        due("total(9), nothing changes", z.total(9), 2);
    }
}
