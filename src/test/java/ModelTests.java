/**
 * Long runs of calls, each answered by the program and by the plain model; both must answer alike. The
 * runs are drawn by a fixed rule, the same each time.
 */
public final class ModelTests {
    private static final int RUNS = 600;
    private static final int CALLS = 512;

    private static final Checks CHECKS = new Checks("ModelTests");
    private static long drawn = 20261119L;

    private CarpetCrosses x = new CarpetCrosses();
    private PlainModel model = new PlainModel();
    private final int run;
    private int calls = 0;
    private boolean alike = true;

    private ModelTests(int run) {
        this.run = run;
    }

    public static void main(String[] args) {
        for (int run = 0; run < RUNS; run++) {
            new ModelTests(run).play();
        }
        CHECKS.end();
    }

    private static int draw(int end) {
        drawn = drawn * 6364136223846793005L + 1442695040888963407L;
        return (int) Long.remainderUnsigned(drawn >>> 33, end);
    }

    /** Mostly 0 to end - 1, seldom a number beside that range or far from it. */
    private static int drawArgument(int end) {
        if (draw(40) > 0) {
            return draw(Math.max(1, end));
        }
        int[] others = {-1, end, end + 1, -5, 1000, Integer.MIN_VALUE, Integer.MAX_VALUE};
        return others[draw(others.length)];
    }

    private void due(String call, int got, int want) {
        calls++;
        if (got != want) {
            alike = false;
        }
        CHECKS.due("run " + run + ", call " + calls + ", " + call, got, want);
    }

    /** After the first wrong answer the two would go on from unlike states. */
    private boolean goesOn() {
        return alike && calls < CALLS;
    }

    private void play() {
        prepare();
        askHowItComesUponItself();
        shift();
        askHowItComesUponItself();
        while (goesOn()) {
            if (draw(3) == 0) {
                change();
            } else {
                ask();
            }
        }
    }

    /** Some runs begin with carpets in which much touches, or which come upon themselves. */
    private void prepare() {
        switch (run % 6) {
            case 0:
                break;
            case 1:
                perform("k00000;k10000;k20000;k30000");
                break;
            case 2:
                setRule(2);
                fill(draw(6));
                break;
            case 3:
                perform("k00101;k11010;k20100;k30000");
                break;
            case 4:
                prepareShifts();
                break;
            default:
                prepareHalfTurn();
                break;
        }
    }

    private void prepareShifts() {
        setRule(2);
        perform("k01234;k14123;k23412;k33333");
        int columns = 5 * draw(3);
        int rows = columns == 0 ? 5 : 5 * draw(2);
        for (int i = 0; i < 4; i++) {
            int kind = draw(3);
            int turns = draw(4);
            int cell = draw(150);
            for (int copy = 0; copy < 6; copy++) {
                int used = draw(2) * draw(4) * draw(2);
                lay((kind + used) % 3, (turns + 3 * used) % 4, moved(cell, copy * columns, copy * rows));
            }
        }
    }

    private void prepareHalfTurn() {
        setRule(2);
        perform("k01234;k13412;k20101;k35555");
        int columns = draw(15);
        int rows = draw(10);
        for (int i = 0; i < 4; i++) {
            int kind = draw(4);
            int turns = draw(4);
            int cell = draw(150);
            lay(kind, turns, cell);
            int other = moved(0, columns - cell % 15 + 15, rows - cell / 15 + 10);
            boolean asOther = kind < 2 && draw(2) == 0;
            lay(asOther ? 1 - kind : kind, asOther ? turns : (turns + 2) % 4, other);
        }
    }

    private static int moved(int cell, int columns, int rows) {
        return 15 * ((cell / 15 + rows) % 10) + (cell % 15 + columns) % 15;
    }

    private void change() {
        switch (draw(20)) {
            case 0:
                paint();
                break;
            case 1:
                setRule(drawArgument(3));
                break;
            case 2:
                if (draw(3) == 0) {
                    fill(drawArgument(6));
                }
                break;
            case 3:
            case 4:
                take();
                break;
            case 5:
            case 6:
                turn();
                break;
            case 7:
            case 8:
                move();
                break;
            case 9:
                shift();
                break;
            case 10:
            case 11:
                perform(drawText());
                break;
            case 12:
                due("undo()", x.undo(), model.undo());
                break;
            case 13:
                due("keep()", x.keep(), model.keep());
                break;
            case 14:
                due("restore()", x.restore(), model.restore());
                break;
            default:
                layWhereItFits();
                break;
        }
    }

    private void layWhereItFits() {
        int kind = drawArgument(6);
        if (draw(2) == 0) {
            lay(kind, drawArgument(4), drawArgument(150));
            return;
        }
        int place = model.bestPlace(kind, 0);
        if (place >= 0) {
            lay(kind, place % 4, place / 4);
        }
    }

    private void paint() {
        int kind = drawArgument(6);
        int arm = drawArgument(4);
        int colour = drawArgument(6);
        due("paint(" + kind + ", " + arm + ", " + colour + ")",
                x.paint(kind, arm, colour), model.paint(kind, arm, colour));
    }

    private void setRule(int rule) {
        due("setRule(" + rule + ")", x.setRule(rule), model.setRule(rule));
    }

    private void fill(int kind) {
        due("fill(" + kind + ")", x.fill(kind), model.fill(kind));
    }

    private void lay(int kind, int turns, int cell) {
        due("lay(" + kind + ", " + turns + ", " + cell + ")",
                x.lay(kind, turns, cell), model.lay(kind, turns, cell));
    }

    private void take() {
        int cross = drawArgument(model.total(0));
        due("take(" + cross + ")", x.take(cross), model.take(cross));
    }

    private void turn() {
        int cross = drawArgument(model.total(0));
        int turns = drawArgument(4);
        due("turn(" + cross + ", " + turns + ")", x.turn(cross, turns), model.turn(cross, turns));
    }

    private void move() {
        int cross = drawArgument(model.total(0));
        int cell = drawArgument(150);
        int middle = model.cross(cross, 2);
        if (middle >= 0 && draw(2) == 0) {
            cell = moved(middle, 13 + draw(5), 8 + draw(5));
        }
        due("move(" + cross + ", " + cell + ")", x.move(cross, cell), model.move(cross, cell));
    }

    private void shift() {
        int columns = drawArgument(15);
        int rows = drawArgument(10);
        due("shift(" + columns + ", " + rows + ")", x.shift(columns, rows), model.shift(columns, rows));
    }

    private void perform(String text) {
        if (calls + text.length() + 2 > CALLS) {
            calls = CALLS;
            return;
        }
        due("clearText()", x.clearText(), model.clearText());
        for (int i = 0; i < text.length(); i++) {
            char sign = text.charAt(i);
            due("type((char) " + (int) sign + ")", x.type(sign), model.type(sign));
        }
        due("perform() of " + text, x.perform(), model.perform());
    }

    private String drawText() {
        StringBuilder text = new StringBuilder();
        int orders = 1 + draw(6);
        for (int i = 0; i < orders; i++) {
            text.append(i == 0 ? "" : ";").append(drawOrder());
        }
        if (draw(3) == 0) {
            spoil(text);
        }
        return text.toString();
    }

    private String drawOrder() {
        int cell = draw(3) == 0 ? draw(150) : Math.max(0, model.cross(draw(Math.max(1, model.total(0))), 2));
        switch (draw(6)) {
            case 0:
                return "k" + draw(6) + draw(2) + draw(2) + draw(3) + draw(2);
            case 1:
                return "-" + cell;
            case 2:
                return "t" + cell;
            default:
                int place = model.bestPlace(draw(6), 0);
                int next = place >= 0 && draw(3) > 0 ? place / 4 : draw(150);
                return "+" + draw(6) + draw(4) + "@" + next;
        }
    }

    private void spoil(StringBuilder text) {
        String signs = "0123456789;;kt+-@a /:\u00e9\u0107";
        int index = draw(text.length());
        switch (draw(4)) {
            case 0:
                text.setCharAt(index, signs.charAt(draw(signs.length())));
                break;
            case 1:
                text.insert(index, signs.charAt(draw(signs.length())));
                break;
            case 2:
                text.setLength(index);
                break;
            default:
                text.deleteCharAt(index);
                break;
        }
    }

    private void ask() {
        int kind = drawArgument(6);
        int cell = drawArgument(150);
        int cross = drawArgument(model.total(0));
        int turns = drawArgument(4);
        int what = drawArgument(2);
        switch (draw(14)) {
            case 0:
                due("colour(" + kind + ", " + turns + ")", x.colour(kind, turns), model.colour(kind, turns));
                break;
            case 1:
            case 2:
                due("cell(" + cell + ", " + turns + ")", x.cell(cell, turns), model.cell(cell, turns));
                break;
            case 3:
            case 4:
            case 5:
                askCross(cross, drawArgument(7));
                break;
            case 6:
            case 7:
            case 8:
                askTotal(drawArgument(11));
                break;
            case 9:
                due("reason(" + kind + ", " + turns + ", " + cell + ")",
                        x.reason(kind, turns, cell), model.reason(kind, turns, cell));
                break;
            case 10:
                due("places(" + kind + ")", x.places(kind), model.places(kind));
                break;
            case 11:
                due("bestPlace(" + kind + ", " + what + ")", x.bestPlace(kind, what), model.bestPlace(kind, what));
                break;
            case 12:
                due("shifts(" + what + ")", x.shifts(what), model.shifts(what));
                break;
            default:
                due("halfTurn()", x.halfTurn(), model.halfTurn());
                break;
        }
    }

    private void askHowItComesUponItself() {
        due("shifts(0)", x.shifts(0), model.shifts(0));
        due("shifts(1)", x.shifts(1), model.shifts(1));
        due("halfTurn()", x.halfTurn(), model.halfTurn());
    }

    private void askCross(int cross, int what) {
        due("cross(" + cross + ", " + what + ")", x.cross(cross, what), model.cross(cross, what));
    }

    private void askTotal(int what) {
        due("total(" + what + ")", x.total(what), model.total(what));
    }
}
