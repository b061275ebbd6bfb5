/**
 * A bench with prisms and slits, and a lamp whose lines are followed to a screen.
 * The document shared/DOC.md says what each call answers.
 */
public final class JoinedLight {
    public static final int INVALID_ARGUMENT = -1000000001;
    public static final int NOT_POSSIBLE = -1000000002;
    public static final int LIMIT_REACHED = -1000000003;
    public static final int NOT_FOUND = -1000000004;

    private static final int MOST_LINES = 8;
    private static final int MOST_THINGS = 8;
    private static final int MOST_STATES = 4;
    private static final int MOST_CHARACTERS = 60;
    private static final int MOST_DIGITS = 4;
    private static final int MOST_NUMBERS = 3;

    private static final int LEAST_COLOUR = 380;
    private static final int GREATEST_COLOUR = 780;
    private static final int GREATEST_LIGHT = 999;
    private static final int LAST_PLACE = 999;
    private static final int SCREEN = 1000;
    private static final int GREATEST_HEIGHT = 999;
    private static final int GREATEST_STRENGTH = 99;
    private static final int GREATEST_EDGE = 9999;
    private static final int GREATEST_CELL = 9999;
    private static final int FIRST_CELL_WIDTH = 20;
    private static final int GREATEST_CELL_WIDTH = 500;

    private static final int CROWN = 0;
    private static final int FLINT = 1;
    private static final int PRISM = 0;
    private static final int SLIT = 1;
    private static final int UP = 1;
    private static final int DOWN = -1;

    private static final int NOT_LOST = 0;
    private static final int LOST_BY_SLIT = 1;
    private static final int LOST_BEYOND_HEIGHT = 2;

    private static final int NO_FAULT = 0;
    private static final int FAULT_OF_FORM = 1;
    private static final int FAULT_OF_CALL = 2;

    private final Bench bench;
    /** Every change is done here first, so that one that fails leaves the bench alone. */
    private final Bench trial;
    private final Rays rays;
    private final Cells cells;
    private final Choice choice;
    private final History history;
    private final Text text;

    private int faultPosition;
    private int faultReason;
    private int faultCause;
    private int ordersDone;

    public JoinedLight() {
        bench = new Bench();
        trial = new Bench();
        rays = new Rays();
        cells = new Cells();
        choice = new Choice();
        history = new History();
        text = new Text();
    }

    // ---- lamp

    public int line(int colour, int light) {
        trial.copyFrom(bench);
        return keepTrial(trial.addLine(colour, light));
    }

    public int dim(int line, int light) {
        trial.copyFrom(bench);
        return keepTrial(trial.changeLight(line, light));
    }

    // ---- things on the bench

    public int prism(int place, int glass, int strength, int turned) {
        trial.copyFrom(bench);
        return keepTrial(trial.addPrism(place, glass, strength, turned));
    }

    public int slit(int place, int lower, int upper) {
        trial.copyFrom(bench);
        return keepTrial(trial.addSlit(place, lower, upper));
    }

    public int take(int place) {
        trial.copyFrom(bench);
        return keepTrial(trial.removeThing(place));
    }

    public int move(int from, int to) {
        trial.copyFrom(bench);
        return keepTrial(trial.moveThing(from, to));
    }

    public int set(int what, int value) {
        trial.copyFrom(bench);
        return keepTrial(trial.changeSetting(what, value));
    }

    // ---- what there is

    public int lineOf(int line, int what) {
        if (!bench.hasLine(line) || !within(what, 0, 7)) {
            return INVALID_ARGUMENT;
        }
        rays.follow(bench);
        boolean comes = rays.comes(line);
        switch (what) {
            case 0:
                return bench.colours[line];
            case 1:
                return bench.lights[line];
            case 2:
                return oneIf(comes);
            case 3:
                return comes ? rays.heights[line] : NOT_FOUND;
            case 4:
                return comes ? rays.slopes[line] : NOT_FOUND;
            case 5:
                return comes ? bench.cellOf(rays.heights[line]) : NOT_FOUND;
            case 6:
                return comes ? NOT_FOUND : rays.lostAt[line];
            default:
                return comes ? NOT_FOUND : rays.lostWhy[line];
        }
    }

    public int thing(int index, int what) {
        if (index < 0 || !within(what, 0, 6)) {
            return INVALID_ARGUMENT;
        }
        if (!bench.hasThing(index)) {
            return NOT_FOUND;
        }
        rays.follow(bench);
        switch (what) {
            case 0:
                return bench.places[index];
            case 1:
                return bench.kinds[index];
            case 2:
                return bench.firsts[index];
            case 3:
                return bench.seconds[index];
            case 4:
                return turnOfThing(index);
            case 5:
                return rays.linesAt(bench, bench.places[index]);
            default:
                return rays.lightLostAt(bench, bench.places[index]);
        }
    }

    public int height(int line, int place) {
        if (!bench.hasLine(line) || !within(place, 0, SCREEN)) {
            return INVALID_ARGUMENT;
        }
        return heightAt(line, place);
    }

    public int light(int cell) {
        if (!within(cell, -GREATEST_CELL, GREATEST_CELL)) {
            return INVALID_ARGUMENT;
        }
        rays.follow(bench);
        cells.gather(bench, rays);
        return cells.lightOf(cell);
    }

    public int bright(int index, int what) {
        if (index < 0 || !within(what, 0, 2)) {
            return INVALID_ARGUMENT;
        }
        rays.follow(bench);
        cells.gather(bench, rays);
        int slot = cells.slotOfRank(index);
        if (!cells.hasSlot(slot)) {
            return NOT_FOUND;
        }
        switch (what) {
            case 0:
                return cells.numbers[slot];
            case 1:
                return cells.lights[slot];
            default:
                return cells.lines[slot];
        }
    }

    public int bending(int glass, int colour) {
        if (!within(glass, CROWN, FLINT) || !within(colour, LEAST_COLOUR, GREATEST_COLOUR)) {
            return INVALID_ARGUMENT;
        }
        return bendingOf(glass, colour);
    }

    // ---- what would be

    public int best(int place, int what) {
        if (bench.indexOf(place) < 0 || !within(what, 0, 2)) {
            return INVALID_ARGUMENT;
        }
        choice.clear();
        for (int to = 10; to <= 990; to += 10) {
            offerPlace(place, to);
        }
        switch (what) {
            case 0:
                return choice.value;
            case 1:
                return choice.arrivals;
            default:
                return choice.spread;
        }
    }

    public int alone(int line, int place) {
        if (!bench.hasLine(line) || !within(place, 1, LAST_PLACE)) {
            return INVALID_ARGUMENT;
        }
        if (bench.indexOf(place) >= 0) {
            return NOT_POSSIBLE;
        }
        int height = heightAt(line, place);
        if (height == NOT_FOUND) {
            return NOT_FOUND;
        }
        for (int other = 0; other < MOST_LINES && bench.hasLine(other); other++) {
            if (other != line && heightAt(other, place) == height) {
                return NOT_POSSIBLE;
            }
        }
        return height;
    }

    public int tuned(int place) {
        int index = bench.indexOf(place);
        if (!bench.hasThing(index) || bench.kinds[index] != PRISM) {
            return INVALID_ARGUMENT;
        }
        choice.clear();
        trial.copyFrom(bench);
        for (int strength = 1; strength <= GREATEST_STRENGTH; strength++) {
            trial.seconds[index] = strength;
            offerTrial(strength);
        }
        return choice.value;
    }

    public int share() {
        int all = bench.lightOfAll();
        if (all <= 0) {
            return NOT_FOUND;
        }
        rays.follow(bench);
        return bitsOf((float) rays.lightOnScreen(bench) / (float) all);
    }

    public int count(int what) {
        switch (what) {
            case 0:
                return bench.lineCount;
            case 1:
                return bench.thingCount;
            case 6:
                return bench.lightOfAll();
            case 11:
                return history.states;
            case 12:
                return text.length;
            case 20:
                return bench.cellWidth;
            default:
                return countOfRays(what);
        }
    }

    public int undo() {
        return history.takeLatest(bench) ? history.states : NOT_POSSIBLE;
    }

    // ---- texts

    public int type(int character) {
        if (!within(character, 32, 126)) {
            return INVALID_ARGUMENT;
        }
        return text.append((char) character) ? text.length : LIMIT_REACHED;
    }

    public int clearText() {
        int was = text.length;
        text.length = 0;
        return was;
    }

    public int fault(int what) {
        if (!within(what, 0, 2)) {
            return INVALID_ARGUMENT;
        }
        tryText();
        if (faultReason == NO_FAULT) {
            return NOT_FOUND;
        }
        switch (what) {
            case 0:
                return faultPosition;
            case 1:
                return faultReason;
            default:
                return faultCause;
        }
    }

    public int play() {
        tryText();
        return keepTrial(faultReason == NO_FAULT ? ordersDone : NOT_POSSIBLE);
    }

    // ---- what the calls share

    private static boolean within(int value, int least, int greatest) {
        return value >= least && value <= greatest;
    }

    private static int oneIf(boolean holds) {
        return holds ? 1 : 0;
    }

    private static int bendingOf(int glass, int colour) {
        int less = GREATEST_COLOUR - colour;
        return glass == CROWN ? 500 + Math.floorDiv(less, 8) : 600 + Math.floorDiv(less, 3);
    }

    /** The answers that are no errors are never below 0. */
    private int keepTrial(int answer) {
        if (answer >= 0) {
            history.record(bench);
            bench.copyFrom(trial);
        }
        return answer;
    }

    private int turnOfThing(int index) {
        if (!bench.hasThing(index) || bench.kinds[index] != PRISM) {
            return NOT_FOUND;
        }
        return bench.turns[index] == UP ? 1 : 2;
    }

    private int heightAt(int line, int place) {
        rays.followLine(bench, line, place);
        return rays.comes(line) ? rays.heights[line] : NOT_FOUND;
    }

    private void offerPlace(int place, int to) {
        trial.copyFrom(bench);
        if (to == place || trial.moveThing(place, to) >= 0) {
            offerTrial(to);
        }
    }

    private void offerTrial(int value) {
        rays.follow(trial);
        choice.offer(value, Integer.bitCount(rays.linesOnScreen()), rays.spread());
    }

    private int countOfRays(int what) {
        rays.follow(bench);
        switch (what) {
            case 2:
                return rays.linesOnScreen();
            case 3:
                return rays.spread();
            case 4:
                return oneIf(lightIsJoined());
            case 5:
                return oneIf(lightIsJoined() && rays.slopesAreSame());
            case 7:
                return rays.lightOnScreen(bench);
            case 8:
                return bench.lightOfAll() - rays.lightOnScreen(bench) - rays.lightLostAt(bench, SCREEN);
            case 9:
                return rays.lightLostAt(bench, SCREEN);
            case 10:
                cells.gather(bench, rays);
                return cells.used;
            default:
                return INVALID_ARGUMENT;
        }
    }

    private boolean lightIsJoined() {
        cells.gather(bench, rays);
        return cells.used == 1 && Integer.bitCount(rays.linesOnScreen()) == bench.lineCount;
    }

    /**
     * The bits are put together from the float's own value, which is 0 or from 1/7992 to 1:
     * doubling it, and taking 1 from it, lose nothing.
     */
    private static int bitsOf(float share) {
        if (!(share > 0f)) {
            return 0;
        }
        float scaled = share;
        int exponent = 127;
        while (scaled < 1f && exponent > 1) {
            scaled = scaled * 2f;
            exponent--;
        }
        return (exponent << 23) | (int) ((scaled - 1f) * 8388608f);
    }

    /** Does the orders of the text on the trial bench, up to the first that is not possible. */
    private void tryText() {
        trial.copyFrom(bench);
        faultReason = NO_FAULT;
        ordersDone = 0;
        int start = 0;
        while (ordersDone < MOST_CHARACTERS && start < text.length) {
            if (!text.readOrder(start)) {
                noteFault(start, FAULT_OF_FORM, text.next - start);
                return;
            }
            int answer = doOrder();
            if (answer < 0) {
                noteFault(start, FAULT_OF_CALL, answer);
                return;
            }
            ordersDone++;
            start = text.next;
        }
    }

    private void noteFault(int position, int reason, int cause) {
        faultPosition = position;
        faultReason = reason;
        faultCause = cause;
    }

    private int doOrder() {
        int first = text.numbers[0];
        int second = text.numbers[1];
        int third = text.numbers[2];
        switch (text.letter) {
            case 'l':
                return trial.addLine(first, second);
            case 'u':
                return trial.addPrism(first, second, third, UP);
            case 'd':
                return trial.addPrism(first, second, third, DOWN);
            case 's':
                return trial.addSlit(first, -second, second);
            default:
                return trial.removeThing(first);
        }
    }

    /** The lines of the lamp, the things in the order of their places, and the setting. */
    private static final class Bench {
        final int[] colours = new int[MOST_LINES];
        final int[] lights = new int[MOST_LINES];
        int lineCount = 0;

        final int[] places = new int[MOST_THINGS];
        final int[] kinds = new int[MOST_THINGS];
        /** The glass of a prism, or the lower edge of a slit. */
        final int[] firsts = new int[MOST_THINGS];
        /** The strength of a prism, or the upper edge of a slit. */
        final int[] seconds = new int[MOST_THINGS];
        final int[] turns = new int[MOST_THINGS];
        int thingCount = 0;

        int cellWidth = FIRST_CELL_WIDTH;

        void copyFrom(Bench other) {
            System.arraycopy(other.colours, 0, colours, 0, MOST_LINES);
            System.arraycopy(other.lights, 0, lights, 0, MOST_LINES);
            lineCount = other.lineCount;
            System.arraycopy(other.places, 0, places, 0, MOST_THINGS);
            System.arraycopy(other.kinds, 0, kinds, 0, MOST_THINGS);
            System.arraycopy(other.firsts, 0, firsts, 0, MOST_THINGS);
            System.arraycopy(other.seconds, 0, seconds, 0, MOST_THINGS);
            System.arraycopy(other.turns, 0, turns, 0, MOST_THINGS);
            thingCount = other.thingCount;
            cellWidth = other.cellWidth;
        }

        boolean hasLine(int line) {
            return line >= 0 && line < lineCount && line < MOST_LINES;
        }

        boolean hasThing(int index) {
            return index >= 0 && index < thingCount && index < MOST_THINGS;
        }

        int indexOf(int place) {
            for (int i = 0; i < MOST_THINGS && hasThing(i); i++) {
                if (places[i] == place) {
                    return i;
                }
            }
            return -1;
        }

        int thingsAhead(int place) {
            int ahead = 0;
            while (ahead < MOST_THINGS && hasThing(ahead) && places[ahead] < place) {
                ahead++;
            }
            return ahead;
        }

        int cellOf(int height) {
            return cellWidth > 0 ? Math.floorDiv(height, cellWidth) : 0;
        }

        int lightOfAll() {
            int sum = 0;
            for (int line = 0; line < MOST_LINES && hasLine(line); line++) {
                sum += lights[line];
            }
            return sum;
        }

        int addLine(int colour, int light) {
            if (!within(colour, LEAST_COLOUR, GREATEST_COLOUR) || !within(light, 1, GREATEST_LIGHT)) {
                return INVALID_ARGUMENT;
            }
            int line = lineCount;
            if (line < 0 || line >= MOST_LINES) {
                return LIMIT_REACHED;
            }
            colours[line] = colour;
            lights[line] = light;
            lineCount = line + 1;
            return line;
        }

        int changeLight(int line, int light) {
            if (!hasLine(line) || !within(light, 1, GREATEST_LIGHT)) {
                return INVALID_ARGUMENT;
            }
            int was = lights[line];
            lights[line] = light;
            return was;
        }

        int addPrism(int place, int glass, int strength, int turned) {
            boolean known = within(glass, CROWN, FLINT) && (turned == UP || turned == DOWN);
            if (!known || !within(place, 1, LAST_PLACE) || !within(strength, 1, GREATEST_STRENGTH)) {
                return INVALID_ARGUMENT;
            }
            return addThing(place, PRISM, glass, strength, turned);
        }

        int addSlit(int place, int lower, int upper) {
            boolean open = within(lower, -GREATEST_EDGE, GREATEST_EDGE) && within(upper, lower, GREATEST_EDGE);
            if (!open || !within(place, 1, LAST_PLACE)) {
                return INVALID_ARGUMENT;
            }
            return addThing(place, SLIT, lower, upper, UP);
        }

        private int addThing(int place, int kind, int first, int second, int turned) {
            if (indexOf(place) >= 0) {
                return NOT_POSSIBLE;
            }
            int index = thingsAhead(place);
            if (thingCount >= MOST_THINGS || index >= MOST_THINGS) {
                return LIMIT_REACHED;
            }
            for (int i = thingCount; i > index; i--) {
                copyThing(i - 1, i);
            }
            places[index] = place;
            kinds[index] = kind;
            firsts[index] = first;
            seconds[index] = second;
            turns[index] = turned;
            thingCount++;
            return thingCount;
        }

        private void copyThing(int from, int to) {
            if (!within(from, 0, MOST_THINGS - 1) || !within(to, 0, MOST_THINGS - 1)) {
                return;
            }
            places[to] = places[from];
            kinds[to] = kinds[from];
            firsts[to] = firsts[from];
            seconds[to] = seconds[from];
            turns[to] = turns[from];
        }

        int removeThing(int place) {
            int index = indexOf(place);
            if (!hasThing(index)) {
                return INVALID_ARGUMENT;
            }
            for (int i = index + 1; i < MOST_THINGS && hasThing(i); i++) {
                copyThing(i, i - 1);
            }
            thingCount--;
            return thingCount;
        }

        int moveThing(int from, int to) {
            int index = indexOf(from);
            if (!hasThing(index) || !within(to, 1, LAST_PLACE)) {
                return INVALID_ARGUMENT;
            }
            if (indexOf(to) >= 0) {
                return NOT_POSSIBLE;
            }
            int kind = kinds[index];
            int first = firsts[index];
            int second = seconds[index];
            int turned = turns[index];
            removeThing(from);
            addThing(to, kind, first, second, turned);
            return thingsAhead(to);
        }

        int changeSetting(int what, int value) {
            if (what != 0 || !within(value, 1, GREATEST_CELL_WIDTH)) {
                return INVALID_ARGUMENT;
            }
            int was = cellWidth;
            cellWidth = value;
            return was;
        }

        /** How much steeper a line of the colour is behind the thing. */
        int bendAt(int index, int colour) {
            if (!hasThing(index) || kinds[index] != PRISM) {
                return 0;
            }
            int bend = Math.floorDiv(seconds[index] * bendingOf(firsts[index], colour), 100);
            return turns[index] == UP ? bend : -bend;
        }

        int whyLostAt(int index, int height) {
            if (isBeyond(height)) {
                return LOST_BEYOND_HEIGHT;
            }
            boolean slit = hasThing(index) && kinds[index] == SLIT;
            return slit && !within(height, firsts[index], seconds[index]) ? LOST_BY_SLIT : NOT_LOST;
        }

        static boolean isBeyond(int height) {
            return !within(height, -GREATEST_HEIGHT, GREATEST_HEIGHT);
        }
    }

    /** How the lines of a bench went: where and how they ended, or where and why they were lost. */
    private static final class Rays {
        final int[] heights = new int[MOST_LINES];
        final int[] slopes = new int[MOST_LINES];
        final int[] lostAt = new int[MOST_LINES];
        final int[] lostWhy = new int[MOST_LINES];
        int followed = 0;

        void follow(Bench bench) {
            for (int line = 0; line < MOST_LINES && bench.hasLine(line); line++) {
                followLine(bench, line, SCREEN);
            }
            followed = bench.lineCount;
        }

        /** Follows a line up to a place, ahead of what is there. */
        void followLine(Bench bench, int line, int end) {
            if (!bench.hasLine(line)) {
                return;
            }
            int colour = bench.colours[line];
            int at = 0;
            int height = 0;
            int slope = 0;
            for (int i = 0; i < MOST_THINGS && bench.hasThing(i) && bench.places[i] < end; i++) {
                height += rise(slope, bench.places[i] - at);
                at = bench.places[i];
                int why = bench.whyLostAt(i, height);
                if (why != NOT_LOST) {
                    finish(line, at, why);
                    return;
                }
                slope += bench.bendAt(i, colour);
            }
            height += rise(slope, end - at);
            heights[line] = height;
            slopes[line] = slope;
            finish(line, end, Bench.isBeyond(height) ? LOST_BEYOND_HEIGHT : NOT_LOST);
        }

        private static int rise(int slope, int distance) {
            return Math.floorDiv(slope * distance, 1000);
        }

        private void finish(int line, int place, int why) {
            if (!within(line, 0, MOST_LINES - 1)) {
                return;
            }
            lostAt[line] = place;
            lostWhy[line] = why;
        }

        boolean has(int line) {
            return line >= 0 && line < followed && line < MOST_LINES;
        }

        boolean comes(int line) {
            return line >= 0 && line < MOST_LINES && lostWhy[line] == NOT_LOST;
        }

        int linesOnScreen() {
            int set = 0;
            for (int line = 0; line < MOST_LINES && has(line); line++) {
                if (comes(line)) {
                    set |= 1 << line;
                }
            }
            return set;
        }

        int linesAt(Bench bench, int place) {
            int set = 0;
            for (int line = 0; line < MOST_LINES && bench.hasLine(line); line++) {
                boolean passes = comes(line) || lostAt[line] > place;
                boolean meetsSlit = lostAt[line] == place && lostWhy[line] == LOST_BY_SLIT;
                if (passes || meetsSlit) {
                    set |= 1 << line;
                }
            }
            return set;
        }

        int lightLostAt(Bench bench, int place) {
            int sum = 0;
            for (int line = 0; line < MOST_LINES && bench.hasLine(line); line++) {
                if (!comes(line) && lostAt[line] == place) {
                    sum += bench.lights[line];
                }
            }
            return sum;
        }

        int lightOnScreen(Bench bench) {
            int sum = 0;
            for (int line = 0; line < MOST_LINES && bench.hasLine(line); line++) {
                if (comes(line)) {
                    sum += bench.lights[line];
                }
            }
            return sum;
        }

        int spread() {
            int least = GREATEST_HEIGHT;
            int greatest = -GREATEST_HEIGHT;
            for (int line = 0; line < MOST_LINES && has(line); line++) {
                if (comes(line)) {
                    least = Math.min(least, heights[line]);
                    greatest = Math.max(greatest, heights[line]);
                }
            }
            return greatest < least ? 0 : greatest - least;
        }

        boolean slopesAreSame() {
            for (int line = 1; line < MOST_LINES && has(line); line++) {
                if (slopes[line] != slopes[0]) {
                    return false;
                }
            }
            return true;
        }
    }

    /** The cells of the screen with light, in the order in which the lines fill them. */
    private static final class Cells {
        final int[] numbers = new int[MOST_LINES];
        final int[] lights = new int[MOST_LINES];
        final int[] lines = new int[MOST_LINES];
        int used = 0;

        void gather(Bench bench, Rays rays) {
            used = 0;
            for (int line = 0; line < MOST_LINES && bench.hasLine(line); line++) {
                if (rays.comes(line)) {
                    addTo(bench.cellOf(rays.heights[line]), bench.lights[line], 1 << line);
                }
            }
        }

        private void addTo(int cell, int light, int lineBit) {
            int slot = slotOf(cell);
            if (slot < 0 || slot >= MOST_LINES) {
                return;
            }
            if (slot == used) {
                numbers[slot] = cell;
                lights[slot] = 0;
                lines[slot] = 0;
                used++;
            }
            lights[slot] += light;
            lines[slot] |= lineBit;
        }

        /** The slot of the cell, or the next free one. */
        private int slotOf(int cell) {
            int slot = 0;
            while (slot < MOST_LINES && hasSlot(slot) && numbers[slot] != cell) {
                slot++;
            }
            return slot;
        }

        boolean hasSlot(int slot) {
            return slot >= 0 && slot < used && slot < MOST_LINES;
        }

        int lightOf(int cell) {
            int slot = slotOf(cell);
            return hasSlot(slot) ? lights[slot] : 0;
        }

        /** The slot that so many others are ahead of, or -1. */
        int slotOfRank(int rank) {
            for (int slot = 0; slot < MOST_LINES && hasSlot(slot); slot++) {
                if (rankOf(slot) == rank) {
                    return slot;
                }
            }
            return -1;
        }

        private int rankOf(int slot) {
            if (!hasSlot(slot)) {
                return -1;
            }
            int light = lights[slot];
            int number = numbers[slot];
            int rank = 0;
            for (int other = 0; other < MOST_LINES && hasSlot(other); other++) {
                boolean brighter = lights[other] > light;
                boolean lower = lights[other] == light && numbers[other] < number;
                if (brighter || lower) {
                    rank++;
                }
            }
            return rank;
        }
    }

    /** The best of the values that were offered; of equal ones the first stays. */
    private static final class Choice {
        int value = 0;
        int arrivals = -1;
        int spread = 0;

        /** Fewer arrivals than any that can be offered, so that the first one is taken. */
        void clear() {
            arrivals = -1;
        }

        void offer(int newValue, int newArrivals, int newSpread) {
            if (newArrivals > arrivals || newArrivals == arrivals && newSpread < spread) {
                value = newValue;
                arrivals = newArrivals;
                spread = newSpread;
            }
        }
    }

    /** The states before the latest changes, the oldest one first. */
    private static final class History {
        final Bench[] rooms = new Bench[MOST_STATES];
        int states = 0;

        void record(Bench bench) {
            if (states >= MOST_STATES) {
                dropOldest();
            }
            if (states < 0 || states >= MOST_STATES) {
                return;
            }
            Bench room = rooms[states];
            if (room == null) {
                room = new Bench();
                rooms[states] = room;
            }
            room.copyFrom(bench);
            states++;
        }

        /** The room of the oldest state goes to the end, to be used again. */
        private void dropOldest() {
            Bench oldest = rooms[0];
            for (int i = 1; i < MOST_STATES; i++) {
                rooms[i - 1] = rooms[i];
            }
            rooms[MOST_STATES - 1] = oldest;
            states = MOST_STATES - 1;
        }

        boolean takeLatest(Bench into) {
            int latest = states - 1;
            if (latest < 0 || latest >= MOST_STATES) {
                return false;
            }
            Bench room = rooms[latest];
            if (room == null) {
                return false;
            }
            into.copyFrom(room);
            states = latest;
            return true;
        }
    }

    /** The text, and the order that was read from it last. */
    private static final class Text {
        final char[] signs = new char[MOST_CHARACTERS];
        int length = 0;

        char letter = 0;
        final int[] numbers = new int[MOST_NUMBERS];
        /** Behind what was read: the next order, or where the order breaks off. */
        int next = 0;

        boolean append(char sign) {
            if (length < 0 || length >= MOST_CHARACTERS) {
                return false;
            }
            signs[length] = sign;
            length++;
            return true;
        }

        /** Behind the end there is 0, which no order holds: an order breaks off there. */
        private char signAt(int position) {
            return position >= 0 && position < length && position < MOST_CHARACTERS ? signs[position] : 0;
        }

        boolean readOrder(int start) {
            next = start;
            letter = signAt(start);
            int due = numbersOf(letter);
            if (due == 0) {
                return false;
            }
            next++;
            for (int i = 0; i < due && i < MOST_NUMBERS; i++) {
                if (!readNumber(i) || !readSign(i == due - 1 ? ';' : ',')) {
                    return false;
                }
            }
            return true;
        }

        private static int numbersOf(char letter) {
            switch (letter) {
                case 'x':
                    return 1;
                case 'l':
                case 's':
                    return 2;
                case 'u':
                case 'd':
                    return 3;
                default:
                    return 0;
            }
        }

        private boolean readNumber(int index) {
            if (index < 0 || index >= MOST_NUMBERS) {
                return false;
            }
            int digits = 0;
            int value = 0;
            while (digits < MOST_DIGITS && within(signAt(next), '0', '9')) {
                value = value * 10 + signAt(next) - '0';
                digits++;
                next++;
            }
            numbers[index] = value;
            return digits > 0;
        }

        private boolean readSign(char due) {
            if (signAt(next) != due) {
                return false;
            }
            next++;
            return true;
        }
    }
}
