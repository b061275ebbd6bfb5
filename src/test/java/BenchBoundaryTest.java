/** The boundary cases of the lamp and of the bench: for each sentence of promises 1 to 8 and 20 a test of its own. */
public final class BenchBoundaryTest {
    private static final int INVALID = Due.INVALID;
    private static final int NOT_POSSIBLE = Due.NOT_POSSIBLE;
    private static final int LIMIT = Due.LIMIT;
    private static final int NOT_FOUND = Due.NOT_FOUND;
    private static final int LEAST = Scene.LEAST;
    private static final int GREATEST = Scene.GREATEST;
    private static final int UP = 1;
    private static final int DOWN = -1;

    public static void main(String[] args) {
        newBench();
        newBenchOfItsOwn();
        colourOfALine();
        lightOfALine();
        numberOfALine();
        ninthLine();
        lineToDim();
        lightToDim();
        dimTellsWhatItWas();
        placeOfAPrism();
        glassOfAPrism();
        strengthOfAPrism();
        turnOfAPrism();
        prismTellsHowMany();
        prismWhereAThingIs();
        ninthPrism();
        placeOfASlit();
        lowerOfASlit();
        upperOfASlit();
        slitTellsHowMany();
        slitWhereAThingIs();
        ninthSlit();
        layingLeavesTheOthers();
        takeTellsHowMany();
        takeOfNothing();
        takeOfTheFirstAndTheLast();
        takeLeavesTheOthers();
        moveFromNothing();
        moveToNoPlace();
        moveToTheEnds();
        moveToAThing();
        moveToTheSamePlace();
        moveTellsHowManyAreAhead();
        moveOnAFullBench();
        moveLeavesTheOthers();
        setOfNoSetting();
        setLeastAndGreatest();
        setTellsWhatItWas();
        undoOfAnEmptyHistory();
        undoTellsHowManyAreLeft();
        undoRemovesTheLatest();
        undoOfUndo();
        Due.end();
    }

    private static void due(String call, long got, long want) {
        Due.due(call, got, want);
    }

    private static void newBench() {
        Due.part("promise 1: 'an empty bench with a lamp without lines'");
        JoinedLight x = new JoinedLight();
        for (int what = 0; what <= 12; what++) {
            due("count(" + what + ")", x.count(what), 0);
        }
        due("count(20)", x.count(20), 20);
        due("lineOf(0, 0)", x.lineOf(0, 0), INVALID);
        due("thing(0, 0)", x.thing(0, 0), NOT_FOUND);
        due("bright(0, 0)", x.bright(0, 0), NOT_FOUND);
        due("light(0)", x.light(0), 0);
        due("share()", x.share(), NOT_FOUND);
        due("undo()", x.undo(), NOT_POSSIBLE);
    }

    private static void newBenchOfItsOwn() {
        Due.part("promise 1: 'Creates', of two objects beside each other");
        JoinedLight x = new JoinedLight();
        JoinedLight y = new JoinedLight();
        x.line(500, 5);
        x.slit(5, 0, 0);
        x.set(0, 5);
        x.type('x');
        due("count(0)", y.count(0), 0);
        due("count(1)", y.count(1), 0);
        due("count(11)", y.count(11), 0);
        due("count(12)", y.count(12), 0);
        due("count(20)", y.count(20), 20);
    }

    private static void colourOfALine() {
        Due.part("promise 2: 'colour: 380 to 780'");
        JoinedLight x = new JoinedLight();
        int[] wrong = {379, 781, 0, -380, LEAST, GREATEST};
        for (int colour : wrong) {
            due("line(" + colour + ", 5)", x.line(colour, 5), INVALID);
        }
        due("count(0)", x.count(0), 0);
        due("line(380, 5)", x.line(380, 5), 0);
        due("line(780, 5)", x.line(780, 5), 1);
        due("lineOf(0, 0)", x.lineOf(0, 0), 380);
        due("lineOf(1, 0)", x.lineOf(1, 0), 780);
    }

    private static void lightOfALine() {
        Due.part("promise 2: 'light: 1 to 999'");
        JoinedLight x = new JoinedLight();
        int[] wrong = {0, 1000, -1, LEAST, GREATEST};
        for (int light : wrong) {
            due("line(500, " + light + ")", x.line(500, light), INVALID);
        }
        due("count(0)", x.count(0), 0);
        due("line(500, 1)", x.line(500, 1), 0);
        due("line(500, 999)", x.line(500, 999), 1);
        due("lineOf(0, 1)", x.lineOf(0, 1), 1);
        due("lineOf(1, 1)", x.lineOf(1, 1), 999);
    }

    private static void numberOfALine() {
        Due.part("promise 2: 'Returns its number'");
        JoinedLight x = new JoinedLight();
        for (int k = 0; k < 8; k++) {
            due("line(500, 5)", x.line(500, 5), k);
            due("count(0)", x.count(0), k + 1);
        }
    }

    private static void ninthLine() {
        Due.part("promise 2: 'LIMIT_REACHED if there are 8'");
        JoinedLight x = Scene.withLines(8);
        due("line(500, 5)", x.line(500, 5), LIMIT);
        due("line(380, 999)", x.line(380, 999), LIMIT);
        due("count(0)", x.count(0), 8);
        x.undo();
        due("line(380, 999) for another", x.line(380, 999), 7);
        due("line(380, 999)", x.line(380, 999), LIMIT);
    }

    private static void lineToDim() {
        Due.part("promise 3: 'line: number of the line'");
        JoinedLight x = Scene.withLines(8);
        due("dim(-1, 5)", x.dim(-1, 5), INVALID);
        due("dim(8, 5)", x.dim(8, 5), INVALID);
        due("dim(0, 5)", x.dim(0, 5), 10);
        due("dim(7, 6)", x.dim(7, 6), 17);
        due("lineOf(0, 1)", x.lineOf(0, 1), 5);
        due("lineOf(1, 1)", x.lineOf(1, 1), 11);
        due("lineOf(6, 1)", x.lineOf(6, 1), 16);
        due("lineOf(7, 1)", x.lineOf(7, 1), 6);
        due("dim(0, 5) of no line", new JoinedLight().dim(0, 5), INVALID);
    }

    private static void lightToDim() {
        Due.part("promise 3: 'light: 1 to 999'");
        JoinedLight x = Scene.lamp(500);
        int[] wrong = {0, 1000, -1, LEAST, GREATEST};
        for (int light : wrong) {
            due("dim(0, " + light + ")", x.dim(0, light), INVALID);
        }
        due("lineOf(0, 1)", x.lineOf(0, 1), 1);
        due("dim(0, 999)", x.dim(0, 999), 1);
        due("lineOf(0, 1)", x.lineOf(0, 1), 999);
        due("dim(0, 1)", x.dim(0, 1), 999);
        due("lineOf(0, 1)", x.lineOf(0, 1), 1);
    }

    private static void dimTellsWhatItWas() {
        Due.part("promise 3: 'Returns what it was'");
        JoinedLight x = Scene.lamp(500);
        due("dim(0, 7)", x.dim(0, 7), 1);
        due("dim(0, 7)", x.dim(0, 7), 7);
        due("dim(0, 8)", x.dim(0, 8), 7);
        x.undo();
        due("dim(0, 9) after undo", x.dim(0, 9), 7);
    }

    private static void placeOfAPrism() {
        Due.part("promise 4: 'place: 1 to 999'");
        JoinedLight x = new JoinedLight();
        int[] wrong = {0, 1000, -1, LEAST, GREATEST};
        for (int place : wrong) {
            due("prism(" + place + ", 0, 1, 1)", x.prism(place, 0, 1, UP), INVALID);
        }
        due("prism(999, 0, 1, 1)", x.prism(999, 0, 1, UP), 1);
        due("prism(1, 0, 1, 1)", x.prism(1, 0, 1, UP), 2);
        due("thing(0, 0)", x.thing(0, 0), 1);
        due("thing(1, 0)", x.thing(1, 0), 999);
    }

    private static void glassOfAPrism() {
        Due.part("promise 4: 'glass: 0 or 1'");
        JoinedLight x = new JoinedLight();
        int[] wrong = {-1, 2, LEAST, GREATEST};
        for (int glass : wrong) {
            due("prism(5, " + glass + ", 1, 1)", x.prism(5, glass, 1, UP), INVALID);
        }
        due("prism(5, 0, 1, 1)", x.prism(5, 0, 1, UP), 1);
        due("prism(6, 1, 1, 1)", x.prism(6, 1, 1, UP), 2);
        due("thing(0, 2)", x.thing(0, 2), 0);
        due("thing(1, 2)", x.thing(1, 2), 1);
    }

    private static void strengthOfAPrism() {
        Due.part("promise 4: 'strength: 1 to 99'");
        JoinedLight x = new JoinedLight();
        int[] wrong = {0, 100, -1, LEAST, GREATEST};
        for (int strength : wrong) {
            due("prism(5, 0, " + strength + ", 1)", x.prism(5, 0, strength, UP), INVALID);
        }
        due("prism(5, 0, 1, 1)", x.prism(5, 0, 1, UP), 1);
        due("prism(6, 0, 99, 1)", x.prism(6, 0, 99, UP), 2);
        due("thing(0, 3)", x.thing(0, 3), 1);
        due("thing(1, 3)", x.thing(1, 3), 99);
    }

    private static void turnOfAPrism() {
        Due.part("promise 4: 'turned: 1 or -1'");
        JoinedLight x = new JoinedLight();
        int[] wrong = {0, 2, -2, LEAST, GREATEST};
        for (int turned : wrong) {
            due("prism(5, 0, 1, " + turned + ")", x.prism(5, 0, 1, turned), INVALID);
        }
        due("prism(5, 0, 1, 1)", x.prism(5, 0, 1, UP), 1);
        due("prism(6, 0, 1, -1)", x.prism(6, 0, 1, DOWN), 2);
        due("thing(0, 4)", x.thing(0, 4), 1);
        due("thing(1, 4)", x.thing(1, 4), 2);
    }

    private static void prismTellsHowMany() {
        Due.part("promise 4: 'Returns how many things there are then'");
        JoinedLight x = new JoinedLight();
        for (int things = 1; things <= 8; things++) {
            due("prism(" + (1000 - things) + ", 0, 1, 1)", x.prism(1000 - things, 0, things, UP), things);
        }
        due("the one of the least place came last", x.thing(0, 3), 8);
        due("the one of the greatest place came first", x.thing(7, 3), 1);
    }

    private static void prismWhereAThingIs() {
        Due.part("promise 4: 'NOT_POSSIBLE if there is a thing at the place'");
        JoinedLight x = Scene.withThings(2);
        due("where a prism is", x.prism(100, 1, 2, DOWN), NOT_POSSIBLE);
        due("where a slit is", x.prism(200, 1, 2, DOWN), NOT_POSSIBLE);
        due("ahead of it", x.prism(99, 1, 2, DOWN), 3);
        due("behind it", x.prism(101, 1, 2, DOWN), 4);
        x.take(100);
        due("where one was", x.prism(100, 1, 2, DOWN), 4);
    }

    private static void ninthPrism() {
        Due.part("promise 4: 'LIMIT_REACHED if there are 8'");
        due("an eighth", Scene.withThings(7).prism(5, 0, 1, UP), 8);
        due("a ninth ahead of all", Scene.withThings(8).prism(5, 0, 1, UP), LIMIT);
        due("a ninth between", Scene.withThings(8).prism(450, 0, 1, UP), LIMIT);
        due("a ninth behind all", Scene.withThings(8).prism(999, 0, 1, UP), LIMIT);
    }

    private static void placeOfASlit() {
        Due.part("promise 5: 'place: 1 to 999'");
        JoinedLight x = new JoinedLight();
        int[] wrong = {0, 1000, -1, LEAST, GREATEST};
        for (int place : wrong) {
            due("slit(" + place + ", 0, 0)", x.slit(place, 0, 0), INVALID);
        }
        due("slit(999, 0, 0)", x.slit(999, 0, 0), 1);
        due("slit(1, 0, 0)", x.slit(1, 0, 0), 2);
        due("thing(0, 0)", x.thing(0, 0), 1);
        due("thing(1, 0)", x.thing(1, 0), 999);
    }

    private static void lowerOfASlit() {
        Due.part("promise 5: 'lower: -9999 to 9999'");
        JoinedLight x = new JoinedLight();
        int[] wrong = {-10000, LEAST};
        for (int lower : wrong) {
            due("slit(5, " + lower + ", 0)", x.slit(5, lower, 0), INVALID);
            due("slit(5, " + lower + ", " + lower + ")", x.slit(5, lower, lower), INVALID);
        }
        due("slit(5, 10000, 10000)", x.slit(5, 10000, 10000), INVALID);
        due("slit(5, -9999, 0)", x.slit(5, -9999, 0), 1);
        due("slit(6, 9999, 9999)", x.slit(6, 9999, 9999), 2);
        due("thing(0, 2)", x.thing(0, 2), -9999);
        due("thing(1, 2)", x.thing(1, 2), 9999);
    }

    private static void upperOfASlit() {
        Due.part("promise 5: 'upper: lower to 9999'");
        JoinedLight x = new JoinedLight();
        int[][] wrong = {{0, -1}, {0, 10000}, {9999, 9998}, {-9998, -9999}, {0, GREATEST}, {0, LEAST}, {5, -5}};
        for (int[] edges : wrong) {
            due("slit(5, " + edges[0] + ", " + edges[1] + ")", x.slit(5, edges[0], edges[1]), INVALID);
        }
        due("slit(5, 3, 3)", x.slit(5, 3, 3), 1);
        due("slit(6, -3, -3)", x.slit(6, -3, -3), 2);
        due("slit(7, -9999, -9999)", x.slit(7, -9999, -9999), 3);
        due("slit(8, 0, 9999)", x.slit(8, 0, 9999), 4);
        due("thing(0, 3)", x.thing(0, 3), 3);
        due("thing(1, 3)", x.thing(1, 3), -3);
        due("thing(2, 3)", x.thing(2, 3), -9999);
        due("thing(3, 3)", x.thing(3, 3), 9999);
    }

    private static void slitTellsHowMany() {
        Due.part("promise 5: 'Returns how many things there are then'");
        JoinedLight x = new JoinedLight();
        for (int things = 1; things <= 8; things++) {
            due("slit(" + (1000 - things) + ", 0, " + things + ")", x.slit(1000 - things, 0, things), things);
        }
        due("the one of the least place came last", x.thing(0, 3), 8);
        due("the one of the greatest place came first", x.thing(7, 3), 1);
    }

    private static void slitWhereAThingIs() {
        Due.part("promise 5: 'NOT_POSSIBLE if there is a thing at the place'");
        JoinedLight x = Scene.withThings(2);
        due("where a prism is", x.slit(100, 0, 0), NOT_POSSIBLE);
        due("where a slit is", x.slit(200, 0, 0), NOT_POSSIBLE);
        due("ahead of it", x.slit(199, 0, 0), 3);
        due("behind it", x.slit(201, 0, 0), 4);
        x.take(200);
        due("where one was", x.slit(200, 0, 0), 4);
    }

    private static void ninthSlit() {
        Due.part("promise 5: 'LIMIT_REACHED if there are 8'");
        due("an eighth", Scene.withThings(7).slit(5, 0, 0), 8);
        due("a ninth ahead of all", Scene.withThings(8).slit(5, 0, 0), LIMIT);
        due("a ninth between", Scene.withThings(8).slit(450, 0, 0), LIMIT);
        due("a ninth behind all", Scene.withThings(8).slit(999, 0, 0), LIMIT);
    }

    /** What thing(index, 0 to 4) tells of the things that Scene.withThings lays at 100, 200 and so on. */
    private static final int[][] LAID = {
        {100, 0, 0, 11, 1}, {200, 1, -902, 902, NOT_FOUND}, {300, 0, 1, 13, 2}, {400, 1, -904, 904, NOT_FOUND},
        {500, 0, 0, 15, 1}, {600, 1, -906, 906, NOT_FOUND}, {700, 0, 1, 17, 2}, {800, 1, -908, 908, NOT_FOUND},
    };

    private static void thingIs(JoinedLight x, int index, int[] wanted) {
        for (int what = 0; what < wanted.length; what++) {
            due("thing(" + index + ", " + what + ")", x.thing(index, what), wanted[what]);
        }
    }

    private static void layingLeavesTheOthers() {
        Due.part("promises 4 and 5: 'Lays a prism', 'Lays a slit', ahead of, between and behind the others");
        for (int laid = 0; laid <= 7; laid++) {
            JoinedLight x = Scene.withThings(7);
            due("prism(" + (100 * laid + 50) + ", 1, 9, -1)", x.prism(100 * laid + 50, 1, 9, DOWN), 8);
            JoinedLight y = Scene.withThings(7);
            due("slit(" + (100 * laid + 50) + ", 3, 4)", y.slit(100 * laid + 50, 3, 4), 8);
            thingIs(x, laid, new int[] {100 * laid + 50, 0, 1, 9, 2});
            thingIs(y, laid, new int[] {100 * laid + 50, 1, 3, 4, NOT_FOUND});
            for (int i = 0; i < 7; i++) {
                thingIs(x, i < laid ? i : i + 1, LAID[i]);
                thingIs(y, i < laid ? i : i + 1, LAID[i]);
            }
        }
    }

    private static void takeTellsHowMany() {
        Due.part("promise 6: 'Returns how many things there are then'");
        JoinedLight x = Scene.withThings(8);
        for (int things = 7; things >= 0; things--) {
            due("take(" + 100 * (8 - things) + ")", x.take(100 * (8 - things)), things);
            due("count(1)", x.count(1), things);
        }
    }

    private static void takeOfNothing() {
        Due.part("promise 6: 'place: 1 to 999', 'INVALID_ARGUMENT if there is none'");
        int[] wrong = {0, 1000, -1, -100, 99, 101, LEAST, GREATEST};
        JoinedLight x = Scene.withThings(1);
        for (int place : wrong) {
            due("take(" + place + ")", x.take(place), INVALID);
        }
        due("take(100)", x.take(100), 0);
        due("take(100) again", x.take(100), INVALID);
        due("take(1) of an empty bench", new JoinedLight().take(1), INVALID);
    }

    private static void takeOfTheFirstAndTheLast() {
        Due.part("promise 6: 'Takes the thing at a place away', at the places 1 and 999");
        JoinedLight x = new JoinedLight();
        x.slit(1, 0, 1);
        x.prism(500, 0, 2, UP);
        x.slit(999, 0, 3);
        due("take(1)", x.take(1), 2);
        due("thing(0, 0)", x.thing(0, 0), 500);
        due("thing(1, 0)", x.thing(1, 0), 999);
        due("take(999)", x.take(999), 1);
        due("thing(0, 3)", x.thing(0, 3), 2);
        due("thing(1, 0)", x.thing(1, 0), NOT_FOUND);
    }

    private static void takeLeavesTheOthers() {
        Due.part("promise 6: 'Takes the thing at a place away', and the others stay");
        for (int taken = 0; taken < 8; taken++) {
            JoinedLight x = Scene.withThings(8);
            due("take(" + LAID[taken][0] + ")", x.take(LAID[taken][0]), 7);
            for (int i = 0; i < 8; i++) {
                if (i != taken) {
                    thingIs(x, i < taken ? i : i - 1, LAID[i]);
                }
            }
        }
    }

    private static void moveFromNothing() {
        Due.part("promise 7: 'INVALID_ARGUMENT if there is nothing at from'");
        int[] wrong = {0, 1000, -1, 99, 101, LEAST, GREATEST};
        JoinedLight x = Scene.withThings(1);
        for (int from : wrong) {
            due("move(" + from + ", 5)", x.move(from, 5), INVALID);
            due("move(" + from + ", " + from + ")", x.move(from, from), INVALID);
        }
        due("move(100, 5)", x.move(100, 5), 0);
        due("move(100, 6) from where it was", x.move(100, 6), INVALID);
    }

    private static void moveToNoPlace() {
        Due.part("promise 7: 'INVALID_ARGUMENT if .. to is out of range'");
        int[] wrong = {0, 1000, -1, -100, LEAST, GREATEST};
        JoinedLight x = Scene.withThings(1);
        for (int to : wrong) {
            due("move(100, " + to + ")", x.move(100, to), INVALID);
        }
        due("thing(0, 0)", x.thing(0, 0), 100);
    }

    private static void moveToTheEnds() {
        Due.part("promise 7: 'to: 1 to 999'");
        JoinedLight x = Scene.withThings(3);
        due("move(200, 1)", x.move(200, 1), 0);
        due("thing(0, 0)", x.thing(0, 0), 1);
        due("move(1, 999)", x.move(1, 999), 2);
        due("thing(2, 0)", x.thing(2, 0), 999);
        due("thing(2, 1)", x.thing(2, 1), 1);
    }

    private static void moveToAThing() {
        Due.part("promise 7: 'NOT_POSSIBLE if there is a thing at to'");
        JoinedLight x = Scene.withThings(3);
        due("a prism to a slit", x.move(100, 200), NOT_POSSIBLE);
        due("a prism to a prism", x.move(100, 300), NOT_POSSIBLE);
        due("a slit to a prism", x.move(200, 100), NOT_POSSIBLE);
        due("beside it", x.move(100, 199), 0);
        due("count(1)", x.count(1), 3);
    }

    private static void moveToTheSamePlace() {
        Due.part("promise 7: 'NOT_POSSIBLE .. (also if both are the same)'");
        JoinedLight x = Scene.withThings(1);
        due("move(100, 100)", x.move(100, 100), NOT_POSSIBLE);
        due("count(11)", x.count(11), 1);
        due("thing(0, 0)", x.thing(0, 0), 100);
    }

    private static void moveTellsHowManyAreAhead() {
        Due.part("promise 7: 'Returns how many things are ahead of it then'");
        JoinedLight x = Scene.withThings(3);
        due("the first one stays the first", x.move(100, 199), 0);
        due("behind one", x.move(199, 201), 1);
        due("behind two", x.move(201, 301), 2);
        due("of the last one by 1", x.move(301, 302), 2);
        due("to the first again", x.move(302, 1), 0);
        due("of one thing", Scene.withThings(1).move(100, 999), 0);
    }

    private static void moveOnAFullBench() {
        Due.part("promise 7: 'Moves the thing', with 8 things");
        JoinedLight x = Scene.withThings(8);
        due("the first behind all", x.move(100, 999), 7);
        due("thing(7, 3)", x.thing(7, 3), 11);
        due("thing(0, 0)", x.thing(0, 0), 200);
        due("the last ahead of all", x.move(999, 1), 0);
        due("thing(0, 3)", x.thing(0, 3), 11);
        due("thing(0, 4)", x.thing(0, 4), 1);
        due("thing(7, 0)", x.thing(7, 0), 800);
        due("count(1)", x.count(1), 8);
    }

    private static void moveLeavesTheOthers() {
        Due.part("promise 7: 'Moves the thing at a place to another one', and the others stay");
        for (int moved = 0; moved < 8; moved++) {
            JoinedLight x = Scene.withThings(8);
            int ahead = moved < 4 ? 3 : 4;
            due("move(" + LAID[moved][0] + ", 450)", x.move(LAID[moved][0], 450), ahead);
            for (int i = 0; i < 8; i++) {
                int index = i - (i > moved ? 1 : 0);
                if (i == moved) {
                    int[] there = LAID[i].clone();
                    there[0] = 450;
                    thingIs(x, ahead, there);
                } else {
                    thingIs(x, index < ahead ? index : index + 1, LAID[i]);
                }
            }
        }
    }

    private static void setOfNoSetting() {
        Due.part("promise 8: 'what: 0'");
        JoinedLight x = new JoinedLight();
        int[] wrong = {-1, 1, 20, LEAST, GREATEST};
        for (int what : wrong) {
            due("set(" + what + ", 30)", x.set(what, 30), INVALID);
        }
        due("count(20)", x.count(20), 20);
    }

    private static void setLeastAndGreatest() {
        Due.part("promise 8: 'value: a value in its range'");
        JoinedLight x = new JoinedLight();
        int[] wrong = {0, 501, -1, -20, LEAST, GREATEST};
        for (int value : wrong) {
            due("set(0, " + value + ")", x.set(0, value), INVALID);
        }
        due("count(20)", x.count(20), 20);
        due("set(0, 1)", x.set(0, 1), 20);
        due("count(20)", x.count(20), 1);
        due("set(0, 500)", x.set(0, 500), 1);
        due("count(20)", x.count(20), 500);
    }

    private static void setTellsWhatItWas() {
        Due.part("promise 8: 'Returns what it was'");
        JoinedLight x = new JoinedLight();
        due("set(0, 30)", x.set(0, 30), 20);
        due("set(0, 30)", x.set(0, 30), 30);
        due("set(0, 31)", x.set(0, 31), 30);
        x.undo();
        due("set(0, 32) after undo", x.set(0, 32), 30);
    }

    private static void undoOfAnEmptyHistory() {
        Due.part("promise 20: 'NOT_POSSIBLE if it is empty'");
        JoinedLight x = new JoinedLight();
        due("of a new object", x.undo(), NOT_POSSIBLE);
        x.line(500, 5);
        due("of a change", x.undo(), 0);
        due("behind it", x.undo(), NOT_POSSIBLE);
        due("again", x.undo(), NOT_POSSIBLE);
        due("count(11)", x.count(11), 0);
        due("a change behind it", x.line(500, 5), 0);
        due("count(11)", x.count(11), 1);
    }

    private static void undoTellsHowManyAreLeft() {
        Due.part("promise 20: 'Returns the number of states that are left in the history'");
        for (int changes = 1; changes <= 6; changes++) {
            JoinedLight x = Scene.withLines(changes);
            for (int left = Math.min(changes, 4) - 1; left >= 0; left--) {
                due("undo() of " + changes + " changes", x.undo(), left);
                due("count(11)", x.count(11), left);
            }
            due("undo() of " + changes + " changes", x.undo(), NOT_POSSIBLE);
        }
    }

    private static void undoRemovesTheLatest() {
        Due.part("promise 20: 'Restores the latest state of the history, which is removed from it'");
        JoinedLight x = new JoinedLight();
        x.set(0, 1);
        x.set(0, 2);
        x.set(0, 3);
        due("undo()", x.undo(), 2);
        due("count(20)", x.count(20), 2);
        due("undo()", x.undo(), 1);
        due("count(20)", x.count(20), 1);
        due("set(0, 9)", x.set(0, 9), 1);
        due("undo()", x.undo(), 1);
        due("count(20)", x.count(20), 1);
        due("undo()", x.undo(), 0);
        due("count(20)", x.count(20), 20);
    }

    private static void undoOfUndo() {
        Due.part("promise 20: undo is none of the changes");
        JoinedLight x = new JoinedLight();
        x.line(500, 5);
        x.line(600, 6);
        due("undo()", x.undo(), 1);
        due("count(0)", x.count(0), 1);
        due("undo() goes on to the state before", x.undo(), 0);
        due("count(0)", x.count(0), 0);
    }
}
