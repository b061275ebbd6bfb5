/** The boundary cases that the document names ahead of its promises: for each sentence of the terms a test of its own. */
public final class TermBoundaryTest {
    private static final int INVALID = Due.INVALID;
    private static final int NOT_POSSIBLE = Due.NOT_POSSIBLE;
    private static final int LIMIT = Due.LIMIT;
    private static final int NOT_FOUND = Due.NOT_FOUND;
    private static final int UP = 1;
    private static final int DOWN = -1;

    public static void main(String[] args) {
        lastOfTheCalls();
        lastOfTheCallsAfterManyChanges();
        bendIsRoundedDown();
        bendTurnedDownIsRoundedFirst();
        riseIsRoundedDown();
        riseIsRoundedDownBelowZero();
        cellIsRoundedDownBelowZero();
        setsAsBits();
        mostLines();
        linesInTheirOrder();
        beginOfLines();
        mostThings();
        leastAndGreatestPlace();
        onlyOneThingAtAPlace();
        screenBehindTheLastPlace();
        bendByStrength();
        turnedUpOrDown();
        bendingOfCrown();
        bendingOfFlint();
        lowerEdge();
        upperEdge();
        edgesThatAreTheSame();
        leastAndGreatestEdge();
        heightFromPlaceToPlace();
        heightFromTheLamp();
        beyondTheHeight();
        beyondTheHeightBelowZero();
        beyondTheHeightAheadOfASlit();
        beyondTheHeightAheadOfAPrism();
        beyondTheHeightAtTheScreen();
        otherwiseTheThingIsMet();
        cellsOfTheScreen();
        cellsOfOtherWidths();
        lightOfACell();
        spreadOfLines();
        spreadBelowZero();
        joinedIfAllCome();
        joinedInOneCell();
        asItWas();
        notAsItWas();
        firstSetting();
        constants();
        Due.end();
    }

    private static void due(String call, long got, long want) {
        Due.due(call, got, want);
    }

    private static void lastOfTheCalls() {
        Due.part("what it is: 'at most 512 calls'");
        JoinedLight x = new JoinedLight();
        for (int call = 1; call <= 510; call += 2) {
            due("call " + call + ", line(380, 1)", x.line(380, 1), 0);
            due("call " + (call + 1) + ", undo()", x.undo(), 0);
        }
        due("call 511, line(780, 999)", x.line(780, 999), 0);
        due("call 512, lineOf(0, 0)", x.lineOf(0, 0), 780);
    }

    private static void lastOfTheCallsAfterManyChanges() {
        Due.part("what it is: 'at most 512 calls', nearly all of them changes");
        JoinedLight x = new JoinedLight();
        due("call 1", x.set(0, 1), 20);
        for (int call = 2; call <= 500; call++) {
            due("call " + call, x.set(0, call), call - 1);
        }
        for (int call = 501; call <= 507; call++) {
            due("call " + call, x.play(), 0);
        }
        for (int left = 3; left >= 0; left--) {
            due("undo()", x.undo(), left);
        }
        due("call 512", x.undo(), NOT_POSSIBLE);
    }

    private static void bendIsRoundedDown() {
        Due.part("term 'All divisions are rounded down', of a bend");
        JoinedLight x = Scene.lamp(772);
        x.prism(1, 0, 1, UP);
        due("slope of 1 * 501 / 100", x.lineOf(0, 4), 5);
        x.prism(2, 0, 99, UP);
        due("slope of 99 * 501 / 100 more", x.lineOf(0, 4), 5 + 495);
        x.prism(3, 1, 50, UP);
        due("slope of 50 * 602 / 100 more", x.lineOf(0, 4), 5 + 495 + 301);
    }

    private static void bendTurnedDownIsRoundedFirst() {
        Due.part("term 'the slope becomes greater by that .. otherwise less', of a bend with a rest");
        JoinedLight x = Scene.lamp(772);
        x.prism(1, 0, 50, DOWN);
        due("slope less 50 * 501 / 100", x.lineOf(0, 4), -250);
        x.prism(2, 0, 50, UP);
        due("up again by as much", x.lineOf(0, 4), 0);
    }

    /** Crown bends the colour 780 by 500, so that the slope is 5 for each strength. */
    private static void riseIsRoundedDown() {
        Due.part("term 'All divisions are rounded down', of a rise");
        JoinedLight x = Scene.lamp(780);
        x.prism(500, 0, 1, UP);
        due("5 * 199 / 1000", x.height(0, 699), 0);
        due("5 * 200 / 1000", x.height(0, 700), 1);
        due("5 * 399 / 1000", x.height(0, 899), 1);
        due("5 * 400 / 1000", x.height(0, 900), 2);
    }

    private static void riseIsRoundedDownBelowZero() {
        Due.part("term 'rounded down, also below 0', of a rise");
        JoinedLight x = Scene.lamp(780);
        x.prism(500, 0, 1, DOWN);
        due("-5 * 0 / 1000", x.height(0, 500), 0);
        due("-5 * 1 / 1000", x.height(0, 501), -1);
        due("-5 * 200 / 1000", x.height(0, 700), -1);
        due("-5 * 201 / 1000", x.height(0, 701), -2);
        due("-5 * 400 / 1000", x.height(0, 900), -2);
        due("-5 * 500 / 1000", x.lineOf(0, 3), -3);
    }

    private static void cellIsRoundedDownBelowZero() {
        Due.part("term 'rounded down, also below 0', of a cell");
        due("-1 / 20", Scene.onScreenAt(-1).lineOf(0, 5), -1);
        due("-20 / 20", Scene.onScreenAt(-20).lineOf(0, 5), -1);
        due("-21 / 20", Scene.onScreenAt(-21).lineOf(0, 5), -2);
        due("light(-1) of -1", Scene.onScreenAt(-1).light(-1), 7);
        due("light(0) of -1", Scene.onScreenAt(-1).light(0), 0);
        due("bright(0, 0) of -21", Scene.onScreenAt(-21).bright(0, 0), -2);
    }

    private static void setsAsBits() {
        Due.part("term 'Sets of lines are told as bits: bit k is for the line k'");
        JoinedLight none = new JoinedLight();
        none.prism(5, 0, 1, UP);
        due("count(2) of no lines", none.count(2), 0);
        due("thing(0, 5) of no lines", none.thing(0, 5), 0);
        int[] firstAlone = {780, 380, 380, 380, 380, 380, 380, 380};
        int[] lastAlone = {380, 380, 380, 380, 380, 380, 380, 780};
        int[] secondAndThird = {380, 780, 780, 380, 380, 380, 380, 380};
        setsBehindSlit(firstAlone, 1);
        setsBehindSlit(lastAlone, 128);
        setsBehindSlit(secondAndThird, 6);
    }

    /** Of the heights 36 and 30 at 900 a slit lets the one of the colour 780 through. */
    private static void setsBehindSlit(int[] colours, int set) {
        JoinedLight x = Scene.lamp(colours);
        due("count(2) of all eight", x.count(2), 255);
        due("bright(0, 2) of all eight", x.bright(0, 2), 255);
        x.prism(800, 1, 50, UP);
        x.slit(900, 30, 30);
        x.slit(950, -9999, 9999);
        due("thing(1, 5) of all eight", x.thing(1, 5), 255);
        due("thing(2, 5) behind the slit", x.thing(2, 5), set);
        due("count(2) behind the slit", x.count(2), set);
        due("bright(0, 2) behind the slit", x.bright(0, 2), set);
    }

    private static void mostLines() {
        Due.part("term 'at most 8 lines'");
        JoinedLight x = Scene.withLines(7);
        due("the eighth line", x.line(500, 5), 7);
        due("a ninth line", x.line(500, 5), LIMIT);
        due("count(0)", x.count(0), 8);
        due("lineOf(7, 0)", x.lineOf(7, 0), 500);
        due("lineOf(8, 0)", x.lineOf(8, 0), INVALID);
        due("undo()", x.undo(), 3);
        due("the eighth line again", x.line(700, 5), 7);
    }

    private static void linesInTheirOrder() {
        Due.part("term 'numbered from 0 in the order in which they came'");
        JoinedLight x = Scene.lamp(780, 380, 500, 380);
        int[] colours = {780, 380, 500, 380};
        for (int k = 0; k < colours.length; k++) {
            due("lineOf(" + k + ", 0)", x.lineOf(k, 0), colours[k]);
            due("lineOf(" + k + ", 1)", x.lineOf(k, 1), k + 1);
        }
    }

    private static void beginOfLines() {
        Due.part("term 'All begin at the place 0 of the bench, at the height 0, with the slope 0'");
        JoinedLight x = Scene.lamp(380, 780);
        for (int k = 0; k < 2; k++) {
            due("height at the place 0", x.height(k, 0), 0);
            due("height on the screen", x.lineOf(k, 3), 0);
            due("slope on the screen", x.lineOf(k, 4), 0);
        }
        x.slit(1, 0, 0);
        due("through 0 to 0 at 1", x.count(2), 3);
    }

    private static void mostThings() {
        Due.part("term 'at most 8 things on the bench'");
        JoinedLight x = Scene.withThings(7);
        due("a slit as the eighth", x.slit(999, 0, 0), 8);
        due("a prism as the ninth", x.prism(1, 0, 1, UP), LIMIT);
        due("a slit as the ninth", x.slit(1, 0, 0), LIMIT);
        due("count(1)", x.count(1), 8);
        due("take(100)", x.take(100), 7);
        due("a prism as the eighth again", x.prism(1, 0, 1, UP), 8);
    }

    private static void leastAndGreatestPlace() {
        Due.part("term 'each at a place (1 to 999 ..)'");
        JoinedLight x = new JoinedLight();
        due("slit at 0", x.slit(0, 0, 0), INVALID);
        due("slit at 1", x.slit(1, 0, 0), 1);
        due("prism at 999", x.prism(999, 0, 1, UP), 2);
        due("prism at 1000", x.prism(1000, 0, 1, UP), INVALID);
        due("thing(0, 0)", x.thing(0, 0), 1);
        due("thing(1, 0)", x.thing(1, 0), 999);
    }

    private static void onlyOneThingAtAPlace() {
        Due.part("term 'no two at the same'");
        JoinedLight x = new JoinedLight();
        x.prism(100, 0, 1, UP);
        x.slit(200, 0, 0);
        due("a prism on a prism", x.prism(100, 1, 2, DOWN), NOT_POSSIBLE);
        due("a slit on a prism", x.slit(100, 5, 6), NOT_POSSIBLE);
        due("a prism on a slit", x.prism(200, 1, 2, DOWN), NOT_POSSIBLE);
        due("a slit on a slit", x.slit(200, 5, 6), NOT_POSSIBLE);
        due("a prism to a slit", x.move(100, 200), NOT_POSSIBLE);
        due("beside them", x.slit(101, 5, 6), 3);
        due("thing(0, 3)", x.thing(0, 3), 1);
        due("thing(2, 3)", x.thing(2, 3), 0);
    }

    private static void screenBehindTheLastPlace() {
        Due.part("term 'behind them the screen at the place 1000'");
        JoinedLight x = Scene.ramp(UP);
        due("height at 999", x.height(0, 999), 997);
        due("height at 1000", x.height(0, 1000), 998);
        due("height on the screen", x.lineOf(0, 3), 998);
        due("height at 1001", x.height(0, 1001), INVALID);
        JoinedLight y = Scene.lamp(780);
        y.prism(999, 0, 1, DOWN);
        due("-5 * 1 / 1000 behind a prism at 999", y.lineOf(0, 3), -1);
    }

    private static void bendByStrength() {
        Due.part("term 'a strength (1 to 99)'");
        JoinedLight x = Scene.lamp(780);
        x.prism(1, 0, 1, UP);
        due("slope by crown of strength 1", x.lineOf(0, 4), 5);
        x.prism(2, 1, 1, UP);
        due("slope by flint of strength 1 more", x.lineOf(0, 4), 5 + 6);
        x.prism(3, 0, 99, UP);
        due("slope by crown of strength 99 more", x.lineOf(0, 4), 5 + 6 + 495);
        x.prism(4, 1, 99, DOWN);
        due("slope by flint of strength 99 less", x.lineOf(0, 4), 5 + 6 + 495 - 594);
        due("strength 0", x.prism(5, 0, 0, UP), INVALID);
        due("strength 100", x.prism(5, 0, 100, UP), INVALID);
    }

    private static void turnedUpOrDown() {
        Due.part("term 'is turned up (1) or down (-1)'");
        JoinedLight x = Scene.lamp(780);
        due("turned 0", x.prism(5, 0, 1, 0), INVALID);
        due("turned 2", x.prism(5, 0, 1, 2), INVALID);
        due("turned -2", x.prism(5, 0, 1, -2), INVALID);
        due("turned 1", x.prism(5, 0, 1, 1), 1);
        due("slope", x.lineOf(0, 4), 5);
        due("turned -1", x.prism(6, 0, 3, -1), 2);
        due("slope", x.lineOf(0, 4), 5 - 15);
    }

    private static void bendingOfCrown() {
        Due.part("term 'The bending of crown is 500 plus (780 less c) / 8'");
        JoinedLight x = new JoinedLight();
        int[][] bendings = {{780, 500}, {773, 500}, {772, 501}, {765, 501}, {764, 502}, {388, 549}, {387, 549}, {380, 550}};
        for (int[] bending : bendings) {
            due("bending(0, " + bending[0] + ")", x.bending(0, bending[0]), bending[1]);
            JoinedLight y = Scene.lamp(bending[0]);
            y.prism(5, 0, 20, UP);
            due("slope of " + bending[0], y.lineOf(0, 4), bending[1] / 5);
        }
    }

    private static void bendingOfFlint() {
        Due.part("term 'that of flint 600 plus (780 less c) / 3'");
        JoinedLight x = new JoinedLight();
        int[][] bendings = {{780, 600}, {778, 600}, {777, 601}, {775, 601}, {774, 602}, {383, 732}, {381, 733}, {380, 733}};
        for (int[] bending : bendings) {
            due("bending(1, " + bending[0] + ")", x.bending(1, bending[0]), bending[1]);
            JoinedLight y = Scene.lamp(bending[0]);
            y.prism(5, 1, 50, UP);
            due("slope of " + bending[0], y.lineOf(0, 4), bending[1] / 2);
        }
    }

    /** The lines of pair() are at 900 at the heights 36 and 30. */
    private static void lowerEdge() {
        Due.part("term 'whose height is at least its lower edge'");
        due("30 to 99", behindSlit(Scene.pair(), 900, 30, 99).count(2), 3);
        due("31 to 99", behindSlit(Scene.pair(), 900, 31, 99).count(2), 1);
        due("36 to 99", behindSlit(Scene.pair(), 900, 36, 99).count(2), 1);
        due("37 to 99", behindSlit(Scene.pair(), 900, 37, 99).count(2), 0);
        due("why the line 1 is lost", behindSlit(Scene.pair(), 900, 31, 99).lineOf(1, 7), 1);
        due("where the line 1 is lost", behindSlit(Scene.pair(), 900, 31, 99).lineOf(1, 6), 900);
        due("-898 to 0 at -898", behindSlit(Scene.ramp(DOWN), 899, -898, 0).count(2), 1);
        due("-897 to 0 at -898", behindSlit(Scene.ramp(DOWN), 899, -897, 0).count(2), 0);
    }

    private static void upperEdge() {
        Due.part("term 'and at most its upper one'");
        due("-9 to 36", behindSlit(Scene.pair(), 900, -9, 36).count(2), 3);
        due("-9 to 35", behindSlit(Scene.pair(), 900, -9, 35).count(2), 2);
        due("-9 to 30", behindSlit(Scene.pair(), 900, -9, 30).count(2), 2);
        due("-9 to 29", behindSlit(Scene.pair(), 900, -9, 29).count(2), 0);
        due("why the line 0 is lost", behindSlit(Scene.pair(), 900, -9, 35).lineOf(0, 7), 1);
        due("where the line 0 is lost", behindSlit(Scene.pair(), 900, -9, 35).lineOf(0, 6), 900);
        due("-999 to -898 at -898", behindSlit(Scene.ramp(DOWN), 899, -999, -898).count(2), 1);
        due("-999 to -899 at -898", behindSlit(Scene.ramp(DOWN), 899, -999, -899).count(2), 0);
    }

    private static JoinedLight behindSlit(JoinedLight x, int place, int lower, int upper) {
        x.slit(place, lower, upper);
        return x;
    }

    private static void edgesThatAreTheSame() {
        Due.part("term 'the upper one not below the lower one'");
        JoinedLight x = new JoinedLight();
        due("slit(5, 1, 0)", x.slit(5, 1, 0), INVALID);
        due("slit(5, -5, -6)", x.slit(5, -5, -6), INVALID);
        due("slit(5, 7, 7)", x.slit(5, 7, 7), 1);
        due("30 to 30", behindSlit(Scene.pair(), 900, 30, 30).count(2), 2);
        due("31 to 31", behindSlit(Scene.pair(), 900, 31, 31).count(2), 0);
    }

    private static void leastAndGreatestEdge() {
        Due.part("term '-9999 to 9999 each'");
        JoinedLight x = new JoinedLight();
        due("slit(5, -10000, 0)", x.slit(5, -10000, 0), INVALID);
        due("slit(5, 0, 10000)", x.slit(5, 0, 10000), INVALID);
        due("slit(5, -10000, -10000)", x.slit(5, -10000, -10000), INVALID);
        due("slit(5, 10000, 10000)", x.slit(5, 10000, 10000), INVALID);
        due("slit(5, -9999, -9999)", x.slit(5, -9999, -9999), 1);
        due("slit(6, 9999, 9999)", x.slit(6, 9999, 9999), 2);
        due("slit(7, -9999, 9999)", x.slit(7, -9999, 9999), 3);
        due("thing(0, 3)", x.thing(0, 3), -9999);
        due("thing(1, 2)", x.thing(1, 2), 9999);
    }

    /** The slope is -5: by one step from 500 to 1000 the line falls by 3, by two of 250 by 2 each. */
    private static void heightFromPlaceToPlace() {
        Due.part("term 'From a place to the next thing, or the screen, the height .. becomes greater by ..'");
        JoinedLight x = Scene.lamp(780);
        x.prism(500, 0, 1, DOWN);
        due("in one step", x.lineOf(0, 3), -3);
        x.slit(750, -9999, 9999);
        due("in two steps", x.lineOf(0, 3), -4);
        x.slit(751, -9999, 9999);
        due("in three steps", x.lineOf(0, 3), -2 - 1 - 2);
        due("height at 750", x.height(0, 750), -2);
        due("height at 751", x.height(0, 751), -3);
        due("height at 752, a step behind it", x.height(0, 752), -4);
    }

    private static void heightFromTheLamp() {
        Due.part("term 'From a place to the next thing', from the lamp to the first one");
        JoinedLight x = Scene.lamp(780);
        x.prism(999, 1, 99, UP);
        due("at the first thing", x.height(0, 999), 0);
        due("thing(0, 5)", x.thing(0, 5), 1);
        due("594 * 1 / 1000", x.lineOf(0, 3), 0);
        x.move(999, 1);
        due("594 * 999 / 1000", x.lineOf(0, 3), 593);
    }

    private static void beyondTheHeight() {
        Due.part("term 'above 999'");
        due("at 999", behindSlit(Scene.steepRamp(UP), 920, -9999, 9999).thing(2, 5), 1);
        due("at 1000", behindSlit(Scene.steepRamp(UP), 921, -9999, 9999).thing(2, 5), 0);
        due("height(0, 920)", Scene.steepRamp(UP).height(0, 920), 999);
        due("height(0, 921)", Scene.steepRamp(UP).height(0, 921), NOT_FOUND);
        JoinedLight x = behindSlit(Scene.steepRamp(UP), 921, -9999, 9999);
        due("why it is lost", x.lineOf(0, 7), 2);
        due("where it is lost", x.lineOf(0, 6), 921);
        x.move(921, 920);
        due("where it is lost behind 999 at 920", x.lineOf(0, 6), 1000);
    }

    private static void beyondTheHeightBelowZero() {
        Due.part("term 'below -999'");
        due("at -999", behindSlit(Scene.steepRamp(DOWN), 918, -9999, 9999).thing(2, 5), 1);
        due("at -1000", behindSlit(Scene.steepRamp(DOWN), 919, -9999, 9999).thing(2, 5), 0);
        due("height(0, 918)", Scene.steepRamp(DOWN).height(0, 918), -999);
        due("height(0, 919)", Scene.steepRamp(DOWN).height(0, 919), NOT_FOUND);
        JoinedLight x = behindSlit(Scene.steepRamp(DOWN), 919, -9999, 9999);
        due("why it is lost", x.lineOf(0, 7), 2);
        due("where it is lost", x.lineOf(0, 6), 919);
    }

    private static void beyondTheHeightAheadOfASlit() {
        Due.part("term 'lost there (it is beyond the height), ahead of what is there', of a slit");
        JoinedLight x = behindSlit(Scene.steepRamp(UP), 921, 0, 5);
        due("why, at 1000", x.lineOf(0, 7), 2);
        due("where, at 1000", x.lineOf(0, 6), 921);
        due("thing(2, 5)", x.thing(2, 5), 0);
        due("thing(2, 6)", x.thing(2, 6), 7);
        JoinedLight y = behindSlit(Scene.steepRamp(UP), 920, 0, 5);
        due("why, at 999", y.lineOf(0, 7), 1);
        due("where, at 999", y.lineOf(0, 6), 920);
        due("thing(2, 5)", y.thing(2, 5), 1);
        due("thing(2, 6)", y.thing(2, 6), 7);
        JoinedLight z = behindSlit(Scene.steepRamp(UP), 921, 1000, 1000);
        due("a slit that lets 1000 through", z.lineOf(0, 7), 2);
    }

    /** The two prisms turned down take the whole slope of 1089 away, if the line is not lost ahead of them. */
    private static void beyondTheHeightAheadOfAPrism() {
        Due.part("term 'lost there (it is beyond the height), ahead of what is there', of a prism");
        JoinedLight x = Scene.steepRamp(UP);
        x.prism(921, 1, 99, DOWN);
        x.prism(922, 0, 99, DOWN);
        due("where, at 1000", x.lineOf(0, 6), 921);
        due("why, at 1000", x.lineOf(0, 7), 2);
        due("thing(2, 5)", x.thing(2, 5), 0);
        due("thing(2, 6)", x.thing(2, 6), 7);
        due("thing(3, 5) behind it", x.thing(3, 5), 0);
        due("thing(3, 6) behind it", x.thing(3, 6), 0);
        x.take(921);
        x.take(922);
        x.prism(919, 1, 99, DOWN);
        x.prism(920, 0, 99, DOWN);
        due("998 at 919, then 998 + 495 / 1000", x.lineOf(0, 3), 998);
        due("the slope is taken away", x.lineOf(0, 4), 0);
    }

    private static void beyondTheHeightAtTheScreen() {
        Due.part("term 'then is lost there', at the screen");
        JoinedLight lost = Scene.steepRamp(UP);
        due("where", lost.lineOf(0, 6), 1000);
        due("why", lost.lineOf(0, 7), 2);
        due("comes", lost.lineOf(0, 2), 0);
        due("count(9)", lost.count(9), 7);
        JoinedLight x = Scene.ramp(DOWN);
        due("-999 on the screen", x.lineOf(0, 3), -999);
        x.slit(999, -9999, 9999);
        due("still -999 by two steps", x.lineOf(0, 3), -999);
        x.prism(998, 0, 1, DOWN);
        due("-997 - 1005 * 1 / 1000, and on", x.lineOf(0, 6), 1000);
        due("height(0, 999)", x.height(0, 999), -999);
        due("height(0, 1000)", x.height(0, 1000), NOT_FOUND);
    }

    private static void otherwiseTheThingIsMet() {
        Due.part("term 'otherwise the prism bends it, or the slit lets it through or not'");
        JoinedLight x = Scene.steepRamp(UP);
        x.prism(920, 0, 99, DOWN);
        due("a prism at the height 999: 999 + 594 * 80 / 1000", x.height(0, 1000), NOT_FOUND);
        due("height(0, 921) behind it", x.height(0, 921), 999);
        due("thing(2, 5)", x.thing(2, 5), 1);
        JoinedLight y = behindSlit(Scene.steepRamp(UP), 920, 999, 999);
        due("a slit at the height 999", y.thing(2, 6), 0);
        due("lost behind it", y.lineOf(0, 6), 1000);
    }

    private static void cellsOfTheScreen() {
        Due.part("term 'The screen has cells, each setting 0 wide'");
        int[][] cells = {{0, 0}, {1, 0}, {19, 0}, {20, 1}, {39, 1}, {40, 2}, {-1, -1}, {-19, -1}, {-20, -1}, {-21, -2},
            {-40, -2}, {-41, -3}, {99, 4}, {-99, -5}};
        for (int[] cell : cells) {
            JoinedLight x = Scene.onScreenAt(cell[0]);
            due("height of " + cell[0], x.lineOf(0, 3), cell[0]);
            due("cell of " + cell[0], x.lineOf(0, 5), cell[1]);
            due("bright(0, 0) of " + cell[0], x.bright(0, 0), cell[1]);
            due("light of the cell of " + cell[0], x.light(cell[1]), 7);
        }
    }

    private static void cellsOfOtherWidths() {
        Due.part("term 'setting 0 wide', of the least and the greatest width");
        int[][] cells = {{99, 1, 99}, {-99, 1, -99}, {99, 500, 0}, {-1, 500, -1}, {0, 500, 0}, {99, 99, 1}, {98, 99, 0}};
        for (int[] cell : cells) {
            JoinedLight x = Scene.onScreenAt(cell[0]);
            x.set(0, cell[1]);
            due("cell of " + cell[0] + ", " + cell[1] + " wide", x.lineOf(0, 5), cell[2]);
        }
        JoinedLight low = Scene.ramp(DOWN);
        low.set(0, 1);
        due("light(-999)", low.light(-999), 7);
        low.set(0, 500);
        due("light(-2) of -999", low.light(-2), 7);
        JoinedLight high = Scene.ramp(UP);
        high.set(0, 499);
        due("light(2) of 998", high.light(2), 7);
        high.set(0, 500);
        due("light(1) of 998", high.light(1), 7);
    }

    private static void lightOfACell() {
        Due.part("term 'The light of a cell is the sum of the light of all lines in it'");
        JoinedLight x = new JoinedLight();
        due("of no line", x.light(0), 0);
        for (int k = 1; k <= 8; k++) {
            x.line(380, 999);
            due("of " + k + " lines", x.light(0), 999 * k);
        }
        JoinedLight y = Scene.pair();
        due("73 is in the cell 3", y.light(3), 1 + 2);
        y.slit(900, 36, 36);
        due("without one that is lost", y.light(3), 1);
    }

    private static void spreadOfLines() {
        Due.part("term 'The spread is the greatest height of a line on the screen less the least one'");
        due("of one line", Scene.onScreenAt(99).count(3), 0);
        due("of one line below 0", Scene.onScreenAt(-99).count(3), 0);
        due("73 less 60", Scene.pair().count(3), 13);
        due("without one that is lost", behindSlit(Scene.pair(), 900, 36, 36).count(3), 0);
        due("without lines", new JoinedLight().count(3), 0);
    }

    private static void spreadBelowZero() {
        Due.part("term 'The spread', of heights below 0");
        JoinedLight x = Scene.lamp(380, 780);
        x.prism(800, 1, 50, DOWN);
        due("height of the line 0", x.lineOf(0, 3), -74);
        due("height of the line 1", x.lineOf(1, 3), -60);
        due("-60 less -74", x.count(3), 14);
        JoinedLight y = Scene.lamp(380, 780);
        y.prism(200, 0, 50, UP);
        y.prism(600, 1, 66, DOWN);
        due("110 by crown, then 84 down by flint", y.lineOf(0, 3), 110 + -84);
        due("100 by crown, then 59 down by flint", y.lineOf(1, 3), 100 + -59);
        due("count(3)", y.count(3), 15);
    }

    private static void joinedIfAllCome() {
        Due.part("term 'joined if all lines of the lamp come to the screen'");
        JoinedLight x = Scene.pair();
        due("both in the cell 3", x.count(4), 1);
        x.slit(900, 30, 36);
        due("both through the slit", x.count(4), 1);
        x.take(900);
        x.slit(900, 30, 35);
        due("one of them alone", x.count(4), 0);
        x.take(900);
        x.slit(900, 0, 1);
        due("none of them", x.count(4), 0);
        due("one line that is lost", Scene.steepRamp(UP).count(4), 0);
        due("no lines", new JoinedLight().count(4), 0);
    }

    private static void joinedInOneCell() {
        Due.part("term 'into the same cell'");
        JoinedLight x = Scene.pair();
        due("60 and 73, 20 wide", x.count(4), 1);
        x.set(0, 73);
        due("60 and 73, 73 wide", x.count(4), 0);
        x.set(0, 74);
        due("60 and 73, 74 wide", x.count(4), 1);
        x.set(0, 61);
        due("60 and 73, 61 wide", x.count(4), 0);
        due("one line", Scene.onScreenAt(-21).count(4), 1);
    }

    private static void asItWas() {
        Due.part("term 'The light is as it was, if it is joined, and all lines have the same slope there'");
        due("one line", Scene.onScreenAt(50).count(5), 1);
        due("without things", Scene.lamp(380, 580, 780).count(5), 1);
        JoinedLight same = Scene.lamp(780, 778);
        same.prism(10, 1, 99, UP);
        due("a slope that is the same, and not 0", same.count(5), 1);
        JoinedLight back = Scene.lamp(380, 780);
        back.prism(800, 1, 50, UP);
        back.prism(900, 1, 50, DOWN);
        due("36 and 30, back to the slope 0", back.count(5), 1);
        due("no lines", new JoinedLight().count(5), 0);
    }

    private static void notAsItWas() {
        Due.part("term 'as it was', of lines that are not joined, or of other slopes");
        JoinedLight x = Scene.pair();
        due("joined", x.count(4), 1);
        due("with the slopes 366 and 300", x.count(5), 0);
        x.prism(950, 1, 50, DOWN);
        due("with the slopes 0 and 0", x.count(5), 1);
        x.set(0, 50);
        due("in the cells 1 and 0", x.count(4), 0);
        due("with the slopes 0 and 0, not joined", x.count(5), 0);
        JoinedLight lost = Scene.lamp(780, 780, 380);
        lost.prism(800, 1, 50, UP);
        lost.slit(900, 30, 30);
        due("a line is lost", lost.count(5), 0);
    }

    private static void firstSetting() {
        Due.part("term 'The settings are (in parentheses: range; first value): 0 (1 to 500; 20)'");
        JoinedLight x = new JoinedLight();
        due("count(20)", x.count(20), 20);
        due("set(0, 0)", x.set(0, 0), INVALID);
        due("set(0, 501)", x.set(0, 501), INVALID);
        due("set(0, 1)", x.set(0, 1), 20);
        due("set(0, 500)", x.set(0, 500), 1);
        due("count(20)", x.count(20), 500);
    }

    private static void constants() {
        Due.part("term 'The constants'");
        due("INVALID_ARGUMENT", JoinedLight.INVALID_ARGUMENT, -1000000001);
        due("NOT_POSSIBLE", JoinedLight.NOT_POSSIBLE, -1000000002);
        due("LIMIT_REACHED", JoinedLight.LIMIT_REACHED, -1000000003);
        due("NOT_FOUND", JoinedLight.NOT_FOUND, -1000000004);
    }
}
