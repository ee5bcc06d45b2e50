import java.util.ArrayDeque;
import java.util.ArrayList;
import java.util.Arrays;
import java.util.Collections;
import java.util.Deque;
import java.util.HashSet;
import java.util.List;
import java.util.Set;
import java.util.function.BooleanSupplier;
import java.util.regex.Matcher;
import java.util.regex.Pattern;

/**
 * The document once more, by other means than the program's: places are pairs of a column and a row,
 * crosses are lists of arms, arms that touch are found by comparing all pairs of arms, and the text is
 * read by a regular expression. It is slow, and uses the Java library.
 */
final class PlainModel {
    private static final int UNKNOWN = -1;
    private static final int OUT_OF_RANGE = -2;
    private static final int FULL = -3;
    private static final int NOT_POSSIBLE = -4;
    private static final int NONE = -5;

    private static final String ORDER =
            "(?:k[0-5]{5}|\\+[0-5][0-3]@CELL|[-t]CELL)".replace("CELL", "(?:1[0-4][0-9]|[1-9][0-9]|[0-9])");
    private static final Pattern TEXT = Pattern.compile(ORDER + "(?:;" + ORDER + ")*");

    private record Place(int column, int row) {
        static Place of(int cell) {
            return new Place(cell % 15, cell / 15);
        }

        Place plus(int columns, int rows) {
            return new Place(Math.floorMod(column + columns, 15), Math.floorMod(row + rows, 10));
        }

        Place towards(int direction) {
            return plus(direction % 2 == 1 ? 2 - direction : 0, direction % 2 == 0 ? direction - 1 : 0);
        }

        /** How many steps, along the columns and along the rows, lead to another place. */
        int stepsTo(Place other) {
            int columns = Math.abs(column - other.column);
            int rows = Math.abs(row - other.row);
            return Math.min(columns, 15 - columns) + Math.min(rows, 10 - rows);
        }

        boolean isBeside(Place other) {
            return stepsTo(other) == 1;
        }

        int number() {
            return 15 * row + column;
        }
    }

    private record Cross(int kind, int turns, Place middle) {
    }

    private record Arm(Cross cross, int direction, Place place, int colour) {
    }

    private record State(int rule, List<List<Integer>> kinds, List<Cross> crosses) {
    }

    private int rule = 0;
    private List<List<Integer>> kinds = new ArrayList<>();
    private List<Cross> crosses = new ArrayList<>();
    private final StringBuilder text = new StringBuilder();
    private final Deque<State> history = new ArrayDeque<>();
    private State snapshot = null;

    PlainModel() {
        for (int kind = 0; kind < 6; kind++) {
            kinds.add(new ArrayList<>(List.of(kind % 6, (kind + 1) % 6, (kind + 2) % 6, (kind + 3) % 6)));
        }
    }

    // ---- the state, and changes of it

    private State state() {
        List<List<Integer>> copy = new ArrayList<>();
        for (List<Integer> arms : kinds) {
            copy.add(new ArrayList<>(arms));
        }
        return new State(rule, copy, new ArrayList<>(crosses));
    }

    private void put(State state) {
        State old = new State(state.rule, state.kinds, state.crosses);
        rule = old.rule;
        kinds = new ArrayList<>();
        for (List<Integer> arms : old.kinds) {
            kinds.add(new ArrayList<>(arms));
        }
        crosses = new ArrayList<>(old.crosses);
    }

    private void record(State state) {
        history.addLast(state);
        if (history.size() > 4) {
            history.removeFirst();
        }
    }

    /** Does what is asked for; if it cannot stand, takes it back and answers NOT_POSSIBLE. */
    private int change(int answer, BooleanSupplier attempt) {
        State old = state();
        if (!attempt.getAsBoolean()) {
            put(old);
            return NOT_POSSIBLE;
        }
        record(old);
        return answer;
    }

    // ---- what lies where

    private static boolean in(int number, int end) {
        return 0 <= number && number < end;
    }

    private List<Arm> arms(Cross cross) {
        List<Integer> colours = new ArrayList<>(kinds.get(cross.kind));
        Collections.rotate(colours, cross.turns);
        List<Arm> arms = new ArrayList<>();
        for (int direction = 0; direction < 4; direction++) {
            arms.add(new Arm(cross, direction, cross.middle.towards(direction), colours.get(direction)));
        }
        return arms;
    }

    private List<Place> cells(Cross cross) {
        List<Place> cells = new ArrayList<>(List.of(cross.middle));
        for (int direction = 0; direction < 4; direction++) {
            cells.add(cross.middle.towards(direction));
        }
        return cells;
    }

    /** The pairs of arms, the first of the one cross and the second of the other, that touch. */
    private List<Arm[]> touching(Cross one, Cross other) {
        List<Arm[]> pairs = new ArrayList<>();
        if (one.middle.stepsTo(other.middle) > 3) {
            return pairs;
        }
        for (Arm first : arms(one)) {
            for (Arm second : arms(other)) {
                if (first.place.isBeside(second.place)) {
                    pairs.add(new Arm[] {first, second});
                }
            }
        }
        return pairs;
    }

    private boolean overlap(Cross one, Cross other) {
        return one.middle.stepsTo(other.middle) <= 2;
    }

    private boolean clash(Cross one, Cross other) {
        for (Arm[] pair : touching(one, other)) {
            boolean alike = pair[0].colour == pair[1].colour;
            if (rule == 0 && !alike || rule == 1 && alike) {
                return true;
            }
        }
        return false;
    }

    private boolean stands() {
        for (int i = 0; i < crosses.size(); i++) {
            for (int j = 0; j < i; j++) {
                if (overlap(crosses.get(i), crosses.get(j)) || clash(crosses.get(i), crosses.get(j))) {
                    return false;
                }
            }
        }
        return true;
    }

    private int at(Place place) {
        for (int i = 0; i < crosses.size(); i++) {
            if (crosses.get(i).middle.stepsTo(place) <= 1) {
                return i;
            }
        }
        return -1;
    }

    // ---- changes

    int paint(int kind, int arm, int colour) {
        if (!in(kind, 6)) {
            return UNKNOWN;
        }
        if (!in(arm, 4) || !in(colour, 6)) {
            return OUT_OF_RANGE;
        }
        int previous = kinds.get(kind).get(arm);
        if (previous == colour) {
            return NONE;
        }
        return change(previous, () -> {
            kinds.get(kind).set(arm, colour);
            return stands();
        });
    }

    int setRule(int next) {
        if (!in(next, 3)) {
            return OUT_OF_RANGE;
        }
        int previous = rule;
        if (next == previous) {
            return NONE;
        }
        return change(previous, () -> {
            rule = next;
            return stands();
        });
    }

    int lay(int kind, int turns, int cell) {
        if (!in(kind, 6) || !in(cell, 150)) {
            return UNKNOWN;
        }
        if (!in(turns, 4)) {
            return OUT_OF_RANGE;
        }
        int why = reason(kind, turns, cell);
        if (why > 0) {
            return why == 4 ? FULL : NOT_POSSIBLE;
        }
        record(state());
        crosses.add(new Cross(kind, turns, Place.of(cell)));
        return crosses.size() - 1;
    }

    int take(int cross) {
        if (!in(cross, crosses.size())) {
            return UNKNOWN;
        }
        record(state());
        crosses.remove(cross);
        return crosses.size();
    }

    private Cross turned(Cross cross, int turns) {
        return new Cross(cross.kind, (cross.turns + turns) % 4, cross.middle);
    }

    int turn(int cross, int turns) {
        if (!in(cross, crosses.size())) {
            return UNKNOWN;
        }
        if (turns == 0 || !in(turns, 4)) {
            return OUT_OF_RANGE;
        }
        Cross next = turned(crosses.get(cross), turns);
        return change(next.turns, () -> {
            crosses.set(cross, next);
            return stands();
        });
    }

    int move(int cross, int cell) {
        if (!in(cross, crosses.size()) || !in(cell, 150)) {
            return UNKNOWN;
        }
        Cross old = crosses.get(cross);
        if (old.middle.number() == cell) {
            return NONE;
        }
        return change(old.middle.number(), () -> {
            crosses.set(cross, new Cross(old.kind, old.turns, Place.of(cell)));
            return stands();
        });
    }

    int shift(int columns, int rows) {
        if (!in(columns, 15) || !in(rows, 10)) {
            return OUT_OF_RANGE;
        }
        record(state());
        crosses.replaceAll(cross -> new Cross(cross.kind, cross.turns, cross.middle.plus(columns, rows)));
        return crosses.size();
    }

    int fill(int kind) {
        if (!in(kind, 6)) {
            return UNKNOWN;
        }
        State old = state();
        for (int place = 0; place < 600; place++) {
            if (reason(kind, place % 4, place / 4) == 0) {
                crosses.add(new Cross(kind, place % 4, Place.of(place / 4)));
            }
        }
        int laid = crosses.size() - old.crosses.size();
        if (laid == 0) {
            return NONE;
        }
        record(old);
        return laid;
    }

    // ---- texts

    int type(char character) {
        if (text.length() == 60) {
            return FULL;
        }
        text.append(character);
        return text.length();
    }

    int clearText() {
        int length = text.length();
        text.setLength(0);
        return length;
    }

    /** The length of the longest beginning of the text that some text without a fault begins with. */
    private int fault() {
        for (int end = 1; end <= text.length(); end++) {
            Matcher matcher = TEXT.matcher(text.substring(0, end));
            if (!matcher.matches() && !matcher.hitEnd()) {
                return end - 1;
            }
        }
        return text.length();
    }

    int perform() {
        if (!TEXT.matcher(text).matches()) {
            return -100 - fault();
        }
        State old = state();
        String[] orders = text.toString().split(";");
        for (String order : orders) {
            int answer = carryOut(order);
            if (answer < 0) {
                put(old);
                return answer;
            }
        }
        record(old);
        return orders.length;
    }

    private int carryOut(String order) {
        if (order.startsWith("k")) {
            List<Integer> arms = kinds.get(order.charAt(1) - '0');
            for (int arm = 0; arm < 4; arm++) {
                arms.set(arm, order.charAt(2 + arm) - '0');
            }
            return stands() ? 0 : NOT_POSSIBLE;
        }
        if (order.startsWith("+")) {
            int cell = Integer.parseInt(order.substring(4));
            int kind = order.charAt(1) - '0';
            int turns = order.charAt(2) - '0';
            int why = reason(kind, turns, cell);
            if (why == 0) {
                crosses.add(new Cross(kind, turns, Place.of(cell)));
            }
            return why == 0 ? 0 : why == 4 ? FULL : NOT_POSSIBLE;
        }
        int cross = at(Place.of(Integer.parseInt(order.substring(1))));
        if (cross < 0) {
            return UNKNOWN;
        }
        if (order.startsWith("-")) {
            crosses.remove(cross);
            return 0;
        }
        crosses.set(cross, turned(crosses.get(cross), 1));
        return stands() ? 0 : NOT_POSSIBLE;
    }

    // ---- history

    int undo() {
        if (history.isEmpty()) {
            return NONE;
        }
        put(history.removeLast());
        return history.size();
    }

    int keep() {
        snapshot = state();
        return crosses.size();
    }

    int restore() {
        if (snapshot == null) {
            return NONE;
        }
        record(state());
        put(snapshot);
        return crosses.size();
    }

    // ---- what there is

    int colour(int kind, int arm) {
        if (!in(kind, 6)) {
            return UNKNOWN;
        }
        return in(arm, 4) ? kinds.get(kind).get(arm) : OUT_OF_RANGE;
    }

    int cell(int cell, int what) {
        if (!in(cell, 150)) {
            return UNKNOWN;
        }
        if (!in(what, 4)) {
            return OUT_OF_RANGE;
        }
        Place place = Place.of(cell);
        if (what == 3) {
            int free = 0;
            for (int direction = 0; direction < 4; direction++) {
                free += at(place.towards(direction)) < 0 ? 1 : 0;
            }
            return free;
        }
        int cross = at(place);
        if (cross < 0) {
            return NONE;
        }
        if (what == 0) {
            return cross;
        }
        for (Arm arm : arms(crosses.get(cross))) {
            if (arm.place.equals(place)) {
                return what == 1 ? arm.direction : arm.colour;
            }
        }
        return what == 1 ? 4 : NONE;
    }

    int cross(int number, int what) {
        if (!in(number, crosses.size())) {
            return UNKNOWN;
        }
        if (!in(what, 7)) {
            return OUT_OF_RANGE;
        }
        Cross cross = crosses.get(number);
        List<Arm[]> pairs = new ArrayList<>();
        for (Cross other : crosses) {
            if (other != cross) {
                pairs.addAll(touching(cross, other));
            }
        }
        switch (what) {
            case 0:
                return cross.kind;
            case 1:
                return cross.turns;
            case 2:
                return cross.middle.number();
            case 3:
                return pairs.size();
            case 4:
                return (int) pairs.stream().map(pair -> pair[1].cross).distinct().count();
            case 5:
                return 4 - (int) pairs.stream().map(pair -> pair[0]).distinct().count();
            default:
                return waysToTurn(number);
        }
    }

    private int waysToTurn(int number) {
        State old = state();
        int ways = 0;
        for (int turns = 0; turns < 4; turns++) {
            crosses.set(number, turned(crosses.get(number), 1));
            ways += stands() ? 1 : 0;
        }
        put(old);
        return ways;
    }

    int total(int what) {
        switch (what) {
            case 0:
                return crosses.size();
            case 1:
                return rule;
            case 2:
                return free().size();
            case 3:
                return touches(false);
            case 4:
                return touches(true);
            case 5:
                return regions().size();
            case 6:
                return regions().isEmpty() ? 0 : Collections.max(regions());
            case 7:
                return groups().size();
            case 8:
                return Collections.frequency(groups(), 1);
            case 9:
                return history.size();
            case 10:
                return text.length();
            default:
                return OUT_OF_RANGE;
        }
    }

    private Set<Place> free() {
        Set<Place> free = new HashSet<>();
        for (int cell = 0; cell < 150; cell++) {
            free.add(Place.of(cell));
        }
        for (Cross cross : crosses) {
            free.removeAll(cells(cross));
        }
        return free;
    }

    private int touches(boolean likeOnly) {
        int touches = 0;
        for (int i = 0; i < crosses.size(); i++) {
            for (int j = 0; j < i; j++) {
                for (Arm[] pair : touching(crosses.get(i), crosses.get(j))) {
                    touches += !likeOnly || pair[0].colour == pair[1].colour ? 1 : 0;
                }
            }
        }
        return touches;
    }

    /** The sizes of the regions of free cells. */
    private List<Integer> regions() {
        Set<Place> left = free();
        List<Integer> sizes = new ArrayList<>();
        while (!left.isEmpty()) {
            Deque<Place> open = new ArrayDeque<>(List.of(left.iterator().next()));
            left.removeAll(open);
            int size = 0;
            while (!open.isEmpty()) {
                Place place = open.pop();
                size++;
                for (int direction = 0; direction < 4; direction++) {
                    if (left.remove(place.towards(direction))) {
                        open.push(place.towards(direction));
                    }
                }
            }
            sizes.add(size);
        }
        return sizes;
    }

    /** The sizes of the groups of crosses that touch. */
    private List<Integer> groups() {
        int[] group = new int[crosses.size()];
        for (int i = 0; i < group.length; i++) {
            group[i] = i;
        }
        for (int i = 0; i < group.length; i++) {
            for (int j = 0; j < i; j++) {
                if (!touching(crosses.get(i), crosses.get(j)).isEmpty()) {
                    int from = group[j];
                    int to = group[i];
                    Arrays.setAll(group, k -> group[k] == from ? to : group[k]);
                }
            }
        }
        List<Integer> sizes = new ArrayList<>();
        for (int i = 0; i < group.length; i++) {
            int number = i;
            int size = (int) Arrays.stream(group).filter(g -> g == number).count();
            if (size > 0) {
                sizes.add(size);
            }
        }
        return sizes;
    }

    // ---- what could be

    int reason(int kind, int turns, int cell) {
        if (!in(kind, 6) || !in(cell, 150)) {
            return UNKNOWN;
        }
        if (!in(turns, 4)) {
            return OUT_OF_RANGE;
        }
        Cross next = new Cross(kind, turns, Place.of(cell));
        if (at(next.middle) >= 0) {
            return 1;
        }
        for (Cross cross : crosses) {
            if (overlap(cross, next)) {
                return 2;
            }
        }
        for (Cross cross : crosses) {
            if (clash(cross, next)) {
                return 3;
            }
        }
        return crosses.size() >= 30 ? 4 : 0;
    }

    int places(int kind) {
        if (!in(kind, 6)) {
            return UNKNOWN;
        }
        int places = 0;
        for (int place = 0; place < 600; place++) {
            places += reason(kind, place % 4, place / 4) == 0 ? 1 : 0;
        }
        return places;
    }

    int bestPlace(int kind, int what) {
        if (!in(kind, 6)) {
            return UNKNOWN;
        }
        if (!in(what, 2)) {
            return OUT_OF_RANGE;
        }
        int best = NONE;
        int most = NONE;
        for (int place = 599; place >= 0; place--) {
            if (reason(kind, place % 4, place / 4) == 0) {
                Cross next = new Cross(kind, place % 4, Place.of(place / 4));
                int touches = 0;
                for (Cross cross : crosses) {
                    touches += touching(cross, next).size();
                }
                if (touches >= most) {
                    most = touches;
                    best = place;
                }
            }
        }
        return what == 0 ? best : most;
    }

    /** What is seen of the carpet, moved, or turned by half and then moved. */
    private Set<List<Integer>> seen(int columns, int rows, boolean half) {
        Set<List<Integer>> seen = new HashSet<>();
        for (Cross cross : crosses) {
            Place middle = cross.middle;
            Place start = half ? new Place(0, 0).plus(-middle.column, -middle.row) : middle;
            List<Integer> look = new ArrayList<>();
            for (Arm arm : arms(cross)) {
                look.add(arm.colour);
            }
            Collections.rotate(look, half ? 2 : 0);
            look.add(start.plus(columns, rows).number());
            seen.add(look);
        }
        return seen;
    }

    private List<Integer> allShifts(boolean half) {
        Set<List<Integer>> asItIs = seen(0, 0, false);
        List<Integer> shifts = new ArrayList<>();
        for (int rows = 0; rows < 10; rows++) {
            for (int columns = 0; columns < 15; columns++) {
                if (seen(columns, rows, half).equals(asItIs)) {
                    shifts.add(15 * rows + columns);
                }
            }
        }
        return shifts;
    }

    int shifts(int what) {
        if (!in(what, 2)) {
            return OUT_OF_RANGE;
        }
        List<Integer> shifts = allShifts(false);
        if (what == 0) {
            return shifts.size();
        }
        return shifts.size() > 1 ? shifts.get(1) : NONE;
    }

    int halfTurn() {
        List<Integer> shifts = allShifts(true);
        return shifts.isEmpty() ? NONE : shifts.get(0);
    }
}
