/**
 * A carpet of crosses on a board that goes round at its edges. Crosses never lie over one another,
 * and their arms touch by colour as RULE asks. What each method promises stands in the document.
 */
public final class CarpetCrosses {
    public static final int UNKNOWN = -1;
    public static final int OUT_OF_RANGE = -2;
    public static final int FULL = -3;
    public static final int NOT_POSSIBLE = -4;
    public static final int NONE = -5;

    private static final int COLUMNS = 15;
    private static final int ROWS = 10;
    private static final int CELLS = 150;
    private static final int CELLS_OF_CROSS = 5;
    private static final int KINDS = 6;
    private static final int COLOURS = 6;
    private static final int DIRECTIONS = 4;
    private static final int RULES = 3;
    private static final int MOST_CROSSES = 30;
    private static final int MOST_STATES = 4;
    private static final int MOST_SIGNS = 60;
    private static final int FAULT_BASE = -100;

    /** The part of a cross that is no arm; its arms are the parts 0 to 3, by their directions. */
    private static final int MIDDLE = 4;

    /** Stands where the number of a cross could stand. */
    private static final int NO_CROSS = -1;

    private static final int IT_CAN = 0;
    private static final int MIDDLE_NOT_FREE = 1;
    private static final int ARM_NOT_FREE = 2;
    private static final int ARMS_CLASH = 3;
    private static final int NO_MORE_ROOM = 4;

    private final Survey survey = new Survey();
    private final Carpet carpet = survey.carpet;
    private final OrderText text = new OrderText();
    private final Past past = new Past();
    private final State before = new State();
    private final State snapshot = new State();
    private boolean hasSnapshot = false;

    public CarpetCrosses() {
    }

    // ---- changes

    public int paint(int kind, int arm, int colour) {
        if (!isKind(kind)) {
            return UNKNOWN;
        }
        if (!isDirection(arm) || colour < 0 || colour >= COLOURS) {
            return OUT_OF_RANGE;
        }
        int previous = carpet.now.colourOf(kind, arm);
        if (colour == previous) {
            return NONE;
        }
        beginChange();
        carpet.now.setColour(kind, arm, colour);
        return endChange(carpet.hasClash() ? NOT_POSSIBLE : previous);
    }

    public int setRule(int rule) {
        if (rule < 0 || rule >= RULES) {
            return OUT_OF_RANGE;
        }
        int previous = carpet.now.rule;
        if (rule == previous) {
            return NONE;
        }
        beginChange();
        carpet.now.rule = rule;
        return endChange(carpet.hasClash() ? NOT_POSSIBLE : previous);
    }

    public int lay(int kind, int turns, int cell) {
        if (!isKind(kind) || !isCell(cell)) {
            return UNKNOWN;
        }
        if (!isDirection(turns)) {
            return OUT_OF_RANGE;
        }
        beginChange();
        return endChange(carpet.layCross(kind, turns, cell));
    }

    public int take(int cross) {
        if (!isCross(cross)) {
            return UNKNOWN;
        }
        beginChange();
        return endChange(carpet.takeAway(cross));
    }

    public int turn(int cross, int turns) {
        if (!isCross(cross)) {
            return UNKNOWN;
        }
        if (turns < 1 || turns >= DIRECTIONS) {
            return OUT_OF_RANGE;
        }
        beginChange();
        return endChange(carpet.turnFurther(cross, turns));
    }

    public int move(int cross, int cell) {
        if (!isCross(cross) || !isCell(cell)) {
            return UNKNOWN;
        }
        if (carpet.now.middles[cross] == cell) {
            return NONE;
        }
        beginChange();
        return endChange(carpet.moveTo(cross, cell));
    }

    public int shift(int columns, int rows) {
        if (columns < 0 || columns >= COLUMNS || rows < 0 || rows >= ROWS) {
            return OUT_OF_RANGE;
        }
        beginChange();
        carpet.shiftAll(columns, rows);
        return endChange(carpet.now.count);
    }

    public int fill(int kind) {
        if (!isKind(kind)) {
            return UNKNOWN;
        }
        beginChange();
        int laid = 0;
        for (int cell = 0; cell < CELLS; cell++) {
            if (layWithFewestTurns(kind, cell)) {
                laid++;
            }
        }
        return endChange(laid == 0 ? NONE : laid);
    }

    // ---- texts

    public int type(char character) {
        return text.append(character) ? text.length() : FULL;
    }

    public int clearText() {
        int length = text.length();
        text.empty();
        return length;
    }

    public int perform() {
        int orders = text.countOrders();
        if (text.isFaulty()) {
            return FAULT_BASE - text.position();
        }
        beginChange();
        text.rewind();
        for (int order = 0; order < orders; order++) {
            text.readOrder();
            int answer = carryOut();
            if (answer < 0) {
                return endChange(answer);
            }
            text.readSeparator();
        }
        return endChange(orders);
    }

    // ---- history

    public int undo() {
        if (past.count() == 0) {
            return NONE;
        }
        past.takeLatest(carpet.now);
        carpet.layOut();
        return past.count();
    }

    public int keep() {
        snapshot.copyFrom(carpet.now);
        hasSnapshot = true;
        return carpet.now.count;
    }

    public int restore() {
        if (!hasSnapshot) {
            return NONE;
        }
        beginChange();
        carpet.now.copyFrom(snapshot);
        carpet.layOut();
        return endChange(carpet.now.count);
    }

    // ---- what there is

    public int colour(int kind, int arm) {
        if (!isKind(kind)) {
            return UNKNOWN;
        }
        return isDirection(arm) ? carpet.now.colourOf(kind, arm) : OUT_OF_RANGE;
    }

    public int cell(int cell, int what) {
        if (!isCell(cell)) {
            return UNKNOWN;
        }
        int owner = carpet.ownerOf(cell);
        int part = carpet.partOn(cell);
        switch (what) {
            case 0:
                return owner == NO_CROSS ? NONE : owner;
            case 1:
                return owner == NO_CROSS ? NONE : part;
            case 2:
                return owner == NO_CROSS || part == MIDDLE ? NONE : carpet.colourShown(owner, part);
            case 3:
                return survey.freeCellsBeside(cell);
            default:
                return OUT_OF_RANGE;
        }
    }

    public int cross(int cross, int what) {
        if (!isCross(cross)) {
            return UNKNOWN;
        }
        switch (what) {
            case 0:
                return carpet.now.kinds[cross];
            case 1:
                return carpet.now.turns[cross];
            case 2:
                return carpet.now.middles[cross];
            case 3:
                return survey.touchesAt(carpet.now.middles[cross], cross);
            case 4:
                return survey.neighboursOf(cross);
            case 5:
                return survey.armsThatTouchNone(cross);
            case 6:
                return survey.waysToTurn(cross);
            default:
                return OUT_OF_RANGE;
        }
    }

    public int total(int what) {
        switch (what) {
            case 0:
                return carpet.now.count;
            case 1:
                return carpet.now.rule;
            case 2:
                return CELLS - CELLS_OF_CROSS * carpet.now.count;
            case 3:
                return survey.touches();
            case 4:
                return survey.touchesOfLikeColours();
            case 5:
                return survey.countRegions(true);
            case 6:
                return survey.greatestFreeRegion();
            case 7:
                return survey.countRegions(false);
            case 8:
                return survey.crossesThatTouchNone();
            case 9:
                return past.count();
            case 10:
                return text.length();
            default:
                return OUT_OF_RANGE;
        }
    }

    // ---- what could be; nothing changes

    public int reason(int kind, int turns, int cell) {
        if (!isKind(kind) || !isCell(cell)) {
            return UNKNOWN;
        }
        return isDirection(turns) ? carpet.whyNot(kind, turns, cell, NO_CROSS) : OUT_OF_RANGE;
    }

    public int places(int kind) {
        return isKind(kind) ? survey.countPlaces(kind) : UNKNOWN;
    }

    public int bestPlace(int kind, int what) {
        if (!isKind(kind)) {
            return UNKNOWN;
        }
        if (what < 0 || what > 1) {
            return OUT_OF_RANGE;
        }
        int place = survey.placeOfMostTouches(kind);
        if (place < 0 || what == 0) {
            return place;
        }
        return survey.touchesAt(place / DIRECTIONS, NO_CROSS);
    }

    public int shifts(int what) {
        switch (what) {
            case 0:
                return survey.countShifts();
            case 1:
                return survey.firstShift(1, false);
            default:
                return OUT_OF_RANGE;
        }
    }

    public int halfTurn() {
        return survey.firstShift(0, true);
    }

    // ---- arguments

    private boolean isKind(int kind) {
        return kind >= 0 && kind < KINDS;
    }

    private boolean isCell(int cell) {
        return cell >= 0 && cell < CELLS;
    }

    private boolean isCross(int cross) {
        return cross >= 0 && cross < carpet.now.count;
    }

    /** Arms and quarter turns have the range of the directions. */
    private boolean isDirection(int number) {
        return number >= 0 && number < DIRECTIONS;
    }

    // ---- changes, from their begin to their end

    private void beginChange() {
        before.copyFrom(carpet.now);
    }

    /** An answer below 0 is an error or NONE, after which nothing may be different. */
    private int endChange(int answer) {
        if (answer < 0) {
            carpet.now.copyFrom(before);
            carpet.layOut();
        } else {
            past.add(before);
        }
        return answer;
    }

    private boolean layWithFewestTurns(int kind, int cell) {
        for (int turns = 0; turns < DIRECTIONS; turns++) {
            if (carpet.layCross(kind, turns, cell) >= 0) {
                return true;
            }
        }
        return false;
    }

    /** Carries out the order that was read last; an answer below 0 is its error. */
    private int carryOut() {
        switch (text.sort()) {
            case 'k':
                return carpet.paintArms(text.kind(), text.colours());
            case '+':
                return carpet.layCross(text.kind(), text.turns(), text.cellNumber());
            default:
                break;
        }
        int owner = carpet.ownerOf(text.cellNumber());
        if (owner == NO_CROSS) {
            return UNKNOWN;
        }
        return text.sort() == '-' ? carpet.takeAway(owner) : carpet.turnFurther(owner, 1);
    }

    /** The cells, and how they lie to one another. */
    private static final class Board {
        static int beside(int cell, int direction) {
            switch (direction) {
                case 0:
                    return shifted(cell, 0, ROWS - 1);
                case 1:
                    return shifted(cell, 1, 0);
                case 2:
                    return shifted(cell, 0, 1);
                default:
                    return shifted(cell, COLUMNS - 1, 0);
            }
        }

        static int shifted(int cell, int columns, int rows) {
            int column = (cell % COLUMNS + columns) % COLUMNS;
            int row = (cell / COLUMNS + rows) % ROWS;
            return COLUMNS * row + column;
        }

        static int turnedByHalf(int cell) {
            int column = (COLUMNS - cell % COLUMNS) % COLUMNS;
            int row = (ROWS - cell / COLUMNS) % ROWS;
            return COLUMNS * row + column;
        }

        static int opposite(int direction) {
            return (direction + 2) % DIRECTIONS;
        }
    }

    /** All that undo and restore bring back. */
    private static final class State {
        int rule = 0;
        int count = 0;
        final int[] kinds = new int[MOST_CROSSES];
        final int[] turns = new int[MOST_CROSSES];
        final int[] middles = new int[MOST_CROSSES];
        private final int[] colours = new int[KINDS * DIRECTIONS];

        State() {
            for (int kind = 0; kind < KINDS; kind++) {
                for (int arm = 0; arm < DIRECTIONS; arm++) {
                    colours[DIRECTIONS * kind + arm] = (kind + arm) % COLOURS;
                }
            }
        }

        void copyFrom(State other) {
            rule = other.rule;
            count = other.count;
            System.arraycopy(other.kinds, 0, kinds, 0, MOST_CROSSES);
            System.arraycopy(other.turns, 0, turns, 0, MOST_CROSSES);
            System.arraycopy(other.middles, 0, middles, 0, MOST_CROSSES);
            System.arraycopy(other.colours, 0, colours, 0, KINDS * DIRECTIONS);
        }

        int colourOf(int kind, int arm) {
            return colours[DIRECTIONS * kind + arm];
        }

        void setColour(int kind, int arm, int colour) {
            colours[DIRECTIONS * kind + arm] = colour;
        }

        int colourTowards(int direction, int kind, int turns) {
            int arm = (direction - turns + DIRECTIONS) % DIRECTIONS;
            return colours[DIRECTIONS * kind + arm];
        }
    }

    /** The history: the states before the latest changes, the oldest one first. */
    private static final class Past {
        private final State[] states = new State[MOST_STATES];
        private int count = 0;

        Past() {
            for (int i = 0; i < MOST_STATES; i++) {
                states[i] = new State();
            }
        }

        int count() {
            return count;
        }

        void add(State state) {
            if (count == MOST_STATES) {
                dropOldest();
            }
            states[count].copyFrom(state);
            count++;
        }

        void takeLatest(State target) {
            if (count > 0) {
                count--;
                target.copyFrom(states[count]);
            }
        }

        private void dropOldest() {
            State oldest = states[0];
            for (int i = 1; i < MOST_STATES; i++) {
                states[i - 1] = states[i];
            }
            // The object of the dropped state serves again for the next one.
            states[MOST_STATES - 1] = oldest;
            count--;
        }
    }

    /** The crosses as they lie, what hinders changes of them, and the changes. */
    private static final class Carpet {
        final State now = new State();
        private final int[] owners = new int[CELLS];
        private final int[] parts = new int[CELLS];

        Carpet() {
            layOut();
        }

        /** Brings the cells up to date with the state; due after each change of the crosses. */
        void layOut() {
            for (int cell = 0; cell < CELLS; cell++) {
                owners[cell] = NO_CROSS;
                parts[cell] = MIDDLE;
            }
            for (int cross = 0; cross < now.count; cross++) {
                int middle = now.middles[cross];
                owners[middle] = cross;
                for (int direction = 0; direction < DIRECTIONS; direction++) {
                    int cell = Board.beside(middle, direction);
                    owners[cell] = cross;
                    parts[cell] = direction;
                }
            }
        }

        int ownerOf(int cell) {
            return owners[cell];
        }

        int partOn(int cell) {
            return parts[cell];
        }

        boolean isFree(int cell) {
            return owners[cell] == NO_CROSS;
        }

        boolean hasArmOfOther(int cell, int cross) {
            int owner = owners[cell];
            return owner != NO_CROSS && owner != cross && parts[cell] != MIDDLE;
        }

        int colourShown(int cross, int direction) {
            return now.colourTowards(direction, now.kinds[cross], now.turns[cross]);
        }

        boolean hasClash() {
            for (int cross = 0; cross < now.count; cross++) {
                if (wouldClash(now.kinds[cross], now.turns[cross], now.middles[cross], cross)) {
                    return true;
                }
            }
            return false;
        }

        /** Whether a cross there would clash with others than the one that it stands for. */
        boolean wouldClash(int kind, int turns, int middle, int itself) {
            for (int direction = 0; direction < DIRECTIONS; direction++) {
                int colour = now.colourTowards(direction, kind, turns);
                int arm = Board.beside(middle, direction);
                for (int side = 0; side < DIRECTIONS; side++) {
                    int cell = Board.beside(arm, side);
                    if (hasArmOfOther(cell, itself)
                            && coloursClash(colour, colourShown(owners[cell], parts[cell]))) {
                        return true;
                    }
                }
            }
            return false;
        }

        /** Why a cross cannot be there, be it a new one (NO_CROSS) or one that comes from elsewhere. */
        int whyNot(int kind, int turns, int middle, int itself) {
            if (!isFreeFor(itself, middle)) {
                return MIDDLE_NOT_FREE;
            }
            for (int direction = 0; direction < DIRECTIONS; direction++) {
                if (!isFreeFor(itself, Board.beside(middle, direction))) {
                    return ARM_NOT_FREE;
                }
            }
            if (wouldClash(kind, turns, middle, itself)) {
                return ARMS_CLASH;
            }
            return itself == NO_CROSS && now.count >= MOST_CROSSES ? NO_MORE_ROOM : IT_CAN;
        }

        int layCross(int kind, int turns, int middle) {
            int why = whyNot(kind, turns, middle, NO_CROSS);
            if (why != IT_CAN) {
                return why == NO_MORE_ROOM ? FULL : NOT_POSSIBLE;
            }
            int cross = now.count;
            now.kinds[cross] = kind;
            now.turns[cross] = turns;
            now.middles[cross] = middle;
            now.count++;
            layOut();
            return cross;
        }

        int takeAway(int cross) {
            for (int i = cross + 1; i < now.count; i++) {
                now.kinds[i - 1] = now.kinds[i];
                now.turns[i - 1] = now.turns[i];
                now.middles[i - 1] = now.middles[i];
            }
            now.count--;
            layOut();
            return now.count;
        }

        int turnFurther(int cross, int quarters) {
            int turns = (now.turns[cross] + quarters) % DIRECTIONS;
            if (wouldClash(now.kinds[cross], turns, now.middles[cross], cross)) {
                return NOT_POSSIBLE;
            }
            now.turns[cross] = turns;
            return turns;
        }

        int moveTo(int cross, int middle) {
            int previous = now.middles[cross];
            if (whyNot(now.kinds[cross], now.turns[cross], middle, cross) != IT_CAN) {
                return NOT_POSSIBLE;
            }
            now.middles[cross] = middle;
            layOut();
            return previous;
        }

        void shiftAll(int columns, int rows) {
            for (int cross = 0; cross < now.count; cross++) {
                now.middles[cross] = Board.shifted(now.middles[cross], columns, rows);
            }
            layOut();
        }

        int paintArms(int kind, int[] colours) {
            for (int arm = 0; arm < DIRECTIONS && arm < colours.length; arm++) {
                now.setColour(kind, arm, colours[arm]);
            }
            return hasClash() ? NOT_POSSIBLE : 0;
        }

        private boolean coloursClash(int one, int other) {
            switch (now.rule) {
                case 0:
                    return one != other;
                case 1:
                    return one == other;
                default:
                    return false;
            }
        }

        private boolean isFreeFor(int cross, int cell) {
            return isFree(cell) || owners[cell] == cross;
        }
    }

    /** What can be counted and found on a carpet; it changes nothing there. */
    private static final class Survey {
        /** Made here, as a constructor hands out nothing of the object that it makes. */
        final Carpet carpet = new Carpet();
        private final boolean[] reached = new boolean[CELLS];
        private final int[] queue = new int[CELLS];
        private final boolean[] met = new boolean[MOST_CROSSES];

        Survey() {
        }

        int freeCellsBeside(int cell) {
            int free = 0;
            for (int direction = 0; direction < DIRECTIONS; direction++) {
                if (carpet.isFree(Board.beside(cell, direction))) {
                    free++;
                }
            }
            return free;
        }

        /** How many times a cross with this middle touches others than the one that it stands for. */
        int touchesAt(int middle, int itself) {
            int touches = 0;
            for (int direction = 0; direction < DIRECTIONS; direction++) {
                touches += touchesOfArm(Board.beside(middle, direction), itself);
            }
            return touches;
        }

        int neighboursOf(int cross) {
            for (int other = 0; other < MOST_CROSSES; other++) {
                met[other] = false;
            }
            int neighbours = 0;
            for (int direction = 0; direction < DIRECTIONS; direction++) {
                int arm = Board.beside(carpet.now.middles[cross], direction);
                for (int side = 0; side < DIRECTIONS; side++) {
                    int cell = Board.beside(arm, side);
                    if (carpet.hasArmOfOther(cell, cross) && !met[carpet.ownerOf(cell)]) {
                        met[carpet.ownerOf(cell)] = true;
                        neighbours++;
                    }
                }
            }
            return neighbours;
        }

        int armsThatTouchNone(int cross) {
            int arms = 0;
            for (int direction = 0; direction < DIRECTIONS; direction++) {
                int arm = Board.beside(carpet.now.middles[cross], direction);
                if (touchesOfArm(arm, cross) == 0) {
                    arms++;
                }
            }
            return arms;
        }

        int waysToTurn(int cross) {
            State now = carpet.now;
            int ways = 0;
            for (int turns = 0; turns < DIRECTIONS; turns++) {
                if (!carpet.wouldClash(now.kinds[cross], turns, now.middles[cross], cross)) {
                    ways++;
                }
            }
            return ways;
        }

        int touches() {
            int touches = 0;
            for (int cross = 0; cross < carpet.now.count; cross++) {
                touches += touchesAt(carpet.now.middles[cross], cross);
            }
            // Each of them was met from both of its arms.
            return touches / 2;
        }

        int touchesOfLikeColours() {
            int touches = 0;
            for (int cross = 0; cross < carpet.now.count; cross++) {
                for (int direction = 0; direction < DIRECTIONS; direction++) {
                    touches += likeTouchesOfArm(cross, direction);
                }
            }
            return touches / 2;
        }

        int crossesThatTouchNone() {
            int crosses = 0;
            for (int cross = 0; cross < carpet.now.count; cross++) {
                if (touchesAt(carpet.now.middles[cross], cross) == 0) {
                    crosses++;
                }
            }
            return crosses;
        }

        /**
         * Counts the regions of the free cells, or of the others. Cells beside one another of two
         * crosses are always arms, so that a region of cells that are not free is a group of
         * crosses that touch.
         */
        int countRegions(boolean free) {
            forgetReached();
            int regions = 0;
            for (int cell = 0; cell < CELLS; cell++) {
                if (!reached[cell] && carpet.isFree(cell) == free) {
                    reachRegion(cell, free);
                    regions++;
                }
            }
            return regions;
        }

        int greatestFreeRegion() {
            forgetReached();
            int greatest = 0;
            for (int cell = 0; cell < CELLS; cell++) {
                if (!reached[cell] && carpet.isFree(cell)) {
                    greatest = Math.max(greatest, reachRegion(cell, true));
                }
            }
            return greatest;
        }

        int countPlaces(int kind) {
            int places = 0;
            for (int cell = 0; cell < CELLS; cell++) {
                for (int turns = 0; turns < DIRECTIONS; turns++) {
                    if (carpet.whyNot(kind, turns, cell, NO_CROSS) == IT_CAN) {
                        places++;
                    }
                }
            }
            return places;
        }

        /** As 4 times the cell plus the quarter turns, or NONE. */
        int placeOfMostTouches(int kind) {
            int best = NONE;
            int most = -1;
            for (int place = 0; place < DIRECTIONS * CELLS; place++) {
                int cell = place / DIRECTIONS;
                if (carpet.whyNot(kind, place % DIRECTIONS, cell, NO_CROSS) == IT_CAN) {
                    int touches = touchesAt(cell, NO_CROSS);
                    if (touches > most) {
                        most = touches;
                        best = place;
                    }
                }
            }
            return best;
        }

        int countShifts() {
            int shifts = 0;
            for (int shift = 0; shift < CELLS; shift++) {
                if (comesUponItself(shift, false)) {
                    shifts++;
                }
            }
            return shifts;
        }

        int firstShift(int from, boolean turnedByHalf) {
            for (int shift = from; shift < CELLS; shift++) {
                if (comesUponItself(shift, turnedByHalf)) {
                    return shift;
                }
            }
            return NONE;
        }

        /** No two crosses come upon the same one, so that it is enough that each comes upon one. */
        private boolean comesUponItself(int shift, boolean turnedByHalf) {
            for (int cross = 0; cross < carpet.now.count; cross++) {
                int middle = carpet.now.middles[cross];
                int start = turnedByHalf ? Board.turnedByHalf(middle) : middle;
                int target = Board.shifted(start, shift % COLUMNS, shift / COLUMNS);
                if (carpet.isFree(target) || carpet.partOn(target) != MIDDLE
                        || !looksLike(cross, carpet.ownerOf(target), turnedByHalf)) {
                    return false;
                }
            }
            return true;
        }

        private boolean looksLike(int cross, int other, boolean turnedByHalf) {
            for (int direction = 0; direction < DIRECTIONS; direction++) {
                int from = turnedByHalf ? Board.opposite(direction) : direction;
                if (carpet.colourShown(cross, from) != carpet.colourShown(other, direction)) {
                    return false;
                }
            }
            return true;
        }

        private int touchesOfArm(int armCell, int itself) {
            int touches = 0;
            for (int side = 0; side < DIRECTIONS; side++) {
                if (carpet.hasArmOfOther(Board.beside(armCell, side), itself)) {
                    touches++;
                }
            }
            return touches;
        }

        private int likeTouchesOfArm(int cross, int direction) {
            int arm = Board.beside(carpet.now.middles[cross], direction);
            int colour = carpet.colourShown(cross, direction);
            int touches = 0;
            for (int side = 0; side < DIRECTIONS; side++) {
                int cell = Board.beside(arm, side);
                if (carpet.hasArmOfOther(cell, cross)
                        && carpet.colourShown(carpet.ownerOf(cell), carpet.partOn(cell)) == colour) {
                    touches++;
                }
            }
            return touches;
        }

        private void forgetReached() {
            for (int cell = 0; cell < CELLS; cell++) {
                reached[cell] = false;
            }
        }

        /** Reaches all cells of the region of a cell, and returns how many they are. */
        private int reachRegion(int start, boolean free) {
            reached[start] = true;
            queue[0] = start;
            int found = 1;
            for (int next = 0; next < found && next < CELLS; next++) {
                for (int direction = 0; direction < DIRECTIONS; direction++) {
                    int cell = Board.beside(queue[next], direction);
                    if (!reached[cell] && carpet.isFree(cell) == free && found < CELLS) {
                        reached[cell] = true;
                        queue[found] = cell;
                        found++;
                    }
                }
            }
            return found;
        }
    }

    /** The text, and a reader that goes through its orders and stands still at its first fault. */
    private static final class OrderText {
        private final char[] signs = new char[MOST_SIGNS];
        private int length = 0;
        private int position = 0;
        private boolean faulty = false;
        private char sort = ' ';
        private int kind = 0;
        private int turns = 0;
        private int cellNumber = 0;
        private final int[] colours = new int[DIRECTIONS];

        OrderText() {
        }

        boolean append(char sign) {
            if (length >= MOST_SIGNS) {
                return false;
            }
            signs[length] = sign;
            length++;
            return true;
        }

        void empty() {
            length = 0;
        }

        int length() {
            return length;
        }

        void rewind() {
            position = 0;
            faulty = false;
        }

        /** Reads all orders; afterwards the reader is faulty, or the text has as many as this. */
        int countOrders() {
            rewind();
            int orders = 0;
            // Each order has a sign of its own at least.
            while (orders < MOST_SIGNS && !faulty) {
                readOrder();
                orders++;
                if (position == length) {
                    break;
                }
                readSeparator();
            }
            return orders;
        }

        void readOrder() {
            sort = position < length ? signs[position] : ' ';
            switch (sort) {
                case 'k':
                    position++;
                    kind = readDigit(KINDS - 1);
                    for (int arm = 0; arm < DIRECTIONS; arm++) {
                        colours[arm] = readDigit(COLOURS - 1);
                    }
                    break;
                case '+':
                    position++;
                    kind = readDigit(KINDS - 1);
                    turns = readDigit(DIRECTIONS - 1);
                    readSign('@');
                    cellNumber = readCellNumber();
                    break;
                case '-':
                case 't':
                    position++;
                    cellNumber = readCellNumber();
                    break;
                default:
                    faulty = true;
                    break;
            }
        }

        /** Behind the last order there is none. */
        void readSeparator() {
            if (position < length) {
                readSign(';');
            }
        }

        boolean isFaulty() {
            return faulty;
        }

        int position() {
            return position;
        }

        char sort() {
            return sort;
        }

        int kind() {
            return kind;
        }

        int turns() {
            return turns;
        }

        int cellNumber() {
            return cellNumber;
        }

        int[] colours() {
            return colours;
        }

        private void readSign(char due) {
            if (!faulty && position < length && signs[position] == due) {
                position++;
            } else {
                faulty = true;
            }
        }

        private int readDigit(int greatest) {
            int digit = digitAhead();
            if (faulty || digit < 0 || digit > greatest) {
                faulty = true;
                return 0;
            }
            position++;
            return digit;
        }

        /** A digit that cannot belong to the number any more is left, and is no separator then. */
        private int readCellNumber() {
            int number = readDigit(9);
            for (int more = 0; more < 2 && !faulty && number > 0; more++) {
                int digit = digitAhead();
                if (digit < 0 || 10 * number + digit >= CELLS) {
                    break;
                }
                number = 10 * number + digit;
                position++;
            }
            return number;
        }

        /** The digit at the position, or -1. */
        private int digitAhead() {
            if (position >= length) {
                return -1;
            }
            char sign = signs[position];
            return sign >= '0' && sign <= '9' ? sign - '0' : -1;
        }
    }
}
