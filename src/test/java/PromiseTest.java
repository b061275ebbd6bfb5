/** Each promise of the document: ordinary inputs, the edges that it names, and wrong inputs. */
public final class PromiseTest {
    private static final int INVALID = Due.INVALID;
    private static final int NOT_POSSIBLE = Due.NOT_POSSIBLE;
    private static final int LIMIT = Due.LIMIT;
    private static final int NOT_FOUND = Due.NOT_FOUND;
    private static final int LEAST = Integer.MIN_VALUE;
    private static final int GREATEST = Integer.MAX_VALUE;

    public static void main(String[] args) {
        newObject();
        line();
        dim();
        prism();
        slit();
        take();
        move();
        set();
        lineOf();
        linesBeyondTheHeight();
        thing();
        height();
        light();
        bright();
        bending();
        best();
        alone();
        tuned();
        share();
        count();
        undo();
        undoOfEachChange();
        type();
        clearText();
        fault();
        faultOfForm();
        faultOfCall();
        play();
        playOfEachOrder();
        Due.end();
    }

    private static void due(String call, long got, long want) {
        Due.due(call, got, want);
    }

    private static void fault(String text, int position, int reason, int cause) {
        JoinedLight x = new JoinedLight();
        Scene.write(x, text);
        faultIn(x, text, position, reason, cause);
    }

    private static void faultIn(JoinedLight x, String text, int position, int reason, int cause) {
        due("fault(0) of " + text, x.fault(0), position);
        due("fault(1) of " + text, x.fault(1), reason);
        due("fault(2) of " + text, x.fault(2), cause);
        due("play() of " + text, x.play(), NOT_POSSIBLE);
    }

    private static void newObject() {
        Due.part("promise 1");
        JoinedLight x = new JoinedLight();
        for (int what = 0; what <= 12; what++) {
            due("count(" + what + ")", x.count(what), 0);
        }
        due("count(20)", x.count(20), 20);
        due("undo()", x.undo(), NOT_POSSIBLE);
        due("thing(0, 0)", x.thing(0, 0), NOT_FOUND);
        due("bright(0, 0)", x.bright(0, 0), NOT_FOUND);
        x.line(500, 1);
        due("count(0) of another object", new JoinedLight().count(0), 0);
    }

    private static void line() {
        Due.part("promise 2");
        JoinedLight x = new JoinedLight();
        due("line(379, 1)", x.line(379, 1), INVALID);
        due("line(781, 1)", x.line(781, 1), INVALID);
        due("line(400, 0)", x.line(400, 0), INVALID);
        due("line(400, 1000)", x.line(400, 1000), INVALID);
        due("line(LEAST, GREATEST)", x.line(LEAST, GREATEST), INVALID);
        due("count(0)", x.count(0), 0);
        due("count(11)", x.count(11), 0);
        due("line(380, 1)", x.line(380, 1), 0);
        due("line(780, 999)", x.line(780, 999), 1);
        for (int i = 2; i < 8; i++) {
            due("line(500, 5)", x.line(500, 5), i);
        }
        due("line(500, 5)", x.line(500, 5), LIMIT);
        due("line(500, 0)", x.line(500, 0), INVALID);
        due("count(0)", x.count(0), 8);
        due("lineOf(1, 0)", x.lineOf(1, 0), 780);
        due("lineOf(1, 1)", x.lineOf(1, 1), 999);
        due("lineOf(0, 4)", x.lineOf(0, 4), 0);
    }

    private static void dim() {
        Due.part("promise 3");
        JoinedLight x = new JoinedLight();
        due("dim(0, 5)", x.dim(0, 5), INVALID);
        x.line(500, 7);
        x.line(500, 8);
        due("dim(-1, 5)", x.dim(-1, 5), INVALID);
        due("dim(2, 5)", x.dim(2, 5), INVALID);
        due("dim(GREATEST, 5)", x.dim(GREATEST, 5), INVALID);
        due("dim(0, 0)", x.dim(0, 0), INVALID);
        due("dim(0, 1000)", x.dim(0, 1000), INVALID);
        due("count(11)", x.count(11), 2);
        due("dim(1, 999)", x.dim(1, 999), 8);
        due("dim(1, 1)", x.dim(1, 1), 999);
        due("lineOf(1, 1)", x.lineOf(1, 1), 1);
        due("lineOf(0, 1)", x.lineOf(0, 1), 7);
        due("count(11)", x.count(11), 4);
    }

    private static void prism() {
        Due.part("promise 4");
        JoinedLight x = new JoinedLight();
        due("prism(0, 0, 1, 1)", x.prism(0, 0, 1, 1), INVALID);
        due("prism(1000, 0, 1, 1)", x.prism(1000, 0, 1, 1), INVALID);
        due("prism(5, -1, 1, 1)", x.prism(5, -1, 1, 1), INVALID);
        due("prism(5, 2, 1, 1)", x.prism(5, 2, 1, 1), INVALID);
        due("prism(5, 0, 0, 1)", x.prism(5, 0, 0, 1), INVALID);
        due("prism(5, 0, 100, 1)", x.prism(5, 0, 100, 1), INVALID);
        due("prism(5, 0, 1, 0)", x.prism(5, 0, 1, 0), INVALID);
        due("prism(5, 0, 1, 2)", x.prism(5, 0, 1, 2), INVALID);
        due("prism(5, 0, 1, -2)", x.prism(5, 0, 1, -2), INVALID);
        due("count(1)", x.count(1), 0);
        due("count(11)", x.count(11), 0);
        due("prism(999, 0, 1, 1)", x.prism(999, 0, 1, 1), 1);
        due("prism(1, 1, 99, -1)", x.prism(1, 1, 99, -1), 2);
        due("prism(1, 1, 99, -1)", x.prism(1, 1, 99, -1), NOT_POSSIBLE);
        due("prism(1, 1, 100, -1)", x.prism(1, 1, 100, -1), INVALID);
        for (int i = 3; i <= 8; i++) {
            due("prism(" + i + ", 0, 1, 1)", x.prism(i, 0, 1, 1), i);
        }
        due("prism(9, 0, 1, 1)", x.prism(9, 0, 1, 1), LIMIT);
        due("prism(8, 0, 1, 1)", x.prism(8, 0, 1, 1), NOT_POSSIBLE);
        due("prism(8, 0, 1, 0)", x.prism(8, 0, 1, 0), INVALID);
        due("thing(0, 0)", x.thing(0, 0), 1);
        due("thing(7, 0)", x.thing(7, 0), 999);
        prismBends();
    }

    /** Crown bends 780 by 500, of strength 33 by 165; a prism turned down takes just that away again. */
    private static void prismBends() {
        JoinedLight x = new JoinedLight();
        x.line(780, 1);
        x.prism(10, 0, 33, 1);
        due("lineOf(0, 4)", x.lineOf(0, 4), 165);
        x.prism(20, 0, 33, -1);
        due("lineOf(0, 4)", x.lineOf(0, 4), 0);
        x.take(10);
        due("lineOf(0, 4)", x.lineOf(0, 4), -165);
        due("lineOf(0, 3)", x.lineOf(0, 3), -162);
        JoinedLight y = new JoinedLight();
        y.line(779, 1);
        y.prism(1, 1, 1, -1);
        due("lineOf(0, 4) of 600 / 100", y.lineOf(0, 4), -6);
        y.prism(2, 0, 99, -1);
        due("lineOf(0, 4) of 500 * 99 / 100 more", y.lineOf(0, 4), -501);
        JoinedLight z = new JoinedLight();
        z.line(772, 1);
        z.prism(1, 0, 50, -1);
        due("lineOf(0, 4) of 501 * 50 / 100", z.lineOf(0, 4), -250);
    }

    private static void slit() {
        Due.part("promise 5");
        JoinedLight x = new JoinedLight();
        due("slit(0, 0, 0)", x.slit(0, 0, 0), INVALID);
        due("slit(1000, 0, 0)", x.slit(1000, 0, 0), INVALID);
        due("slit(5, -10000, 0)", x.slit(5, -10000, 0), INVALID);
        due("slit(5, 0, 10000)", x.slit(5, 0, 10000), INVALID);
        due("slit(5, 1, 0)", x.slit(5, 1, 0), INVALID);
        due("slit(5, 10000, 10000)", x.slit(5, 10000, 10000), INVALID);
        due("slit(5, -9999, 9999)", x.slit(5, -9999, 9999), 1);
        due("slit(5, 0, 0)", x.slit(5, 0, 0), NOT_POSSIBLE);
        due("slit(5, 1, 0)", x.slit(5, 1, 0), INVALID);
        for (int i = 2; i <= 8; i++) {
            due("slit(" + (i + 10) + ", 9999, 9999)", x.slit(i + 10, 9999, 9999), i);
        }
        due("slit(999, 0, 0)", x.slit(999, 0, 0), LIMIT);
        due("slit(5, 0, 0)", x.slit(5, 0, 0), NOT_POSSIBLE);
        slitEdges();
    }

    /** The lines of the rainbow meet a slit at 600 at the heights 145, 133 and 120. */
    private static void slitEdges() {
        int[][] edges = {{120, 145, 7}, {121, 145, 3}, {120, 144, 6}, {133, 133, 2}, {134, 144, 0}, {-9999, 9999, 7}};
        for (int[] edge : edges) {
            JoinedLight x = Scene.rainbow();
            due("slit(600, ..)", x.slit(600, edge[0], edge[1]), 2);
            due("count(2) behind " + edge[0] + " to " + edge[1], x.count(2), edge[2]);
        }
    }

    private static void take() {
        Due.part("promise 6");
        JoinedLight x = Scene.rainbow();
        x.slit(600, 0, 0);
        x.prism(50, 0, 1, 1);
        due("take(0)", x.take(0), INVALID);
        due("take(1000)", x.take(1000), INVALID);
        due("take(-1)", x.take(-1), INVALID);
        due("take(601)", x.take(601), INVALID);
        due("count(1)", x.count(1), 3);
        due("take(100)", x.take(100), 2);
        due("thing(0, 0)", x.thing(0, 0), 50);
        due("thing(1, 0)", x.thing(1, 0), 600);
        due("thing(1, 1)", x.thing(1, 1), 1);
        due("take(100)", x.take(100), INVALID);
        due("take(600)", x.take(600), 1);
        due("take(50)", x.take(50), 0);
        due("take(50)", x.take(50), INVALID);
        due("lineOf(0, 3)", x.lineOf(0, 3), 0);
    }

    private static void move() {
        Due.part("promise 7");
        JoinedLight x = new JoinedLight();
        x.prism(100, 1, 7, -1);
        x.slit(200, -3, 4);
        x.prism(300, 0, 9, 1);
        due("move(101, 50)", x.move(101, 50), INVALID);
        due("move(100, 0)", x.move(100, 0), INVALID);
        due("move(100, 1000)", x.move(100, 1000), INVALID);
        due("move(0, 5)", x.move(0, 5), INVALID);
        due("move(101, 200)", x.move(101, 200), INVALID);
        due("move(100, 200)", x.move(100, 200), NOT_POSSIBLE);
        due("move(100, 100)", x.move(100, 100), NOT_POSSIBLE);
        due("count(11)", x.count(11), 3);
        due("move(100, 250)", x.move(100, 250), 1);
        due("thing(1, 0)", x.thing(1, 0), 250);
        due("thing(1, 2)", x.thing(1, 2), 1);
        due("thing(1, 3)", x.thing(1, 3), 7);
        due("thing(1, 4)", x.thing(1, 4), 2);
        due("thing(0, 0)", x.thing(0, 0), 200);
        due("move(200, 999)", x.move(200, 999), 2);
        due("thing(2, 1)", x.thing(2, 1), 1);
        due("thing(2, 2)", x.thing(2, 2), -3);
        due("thing(2, 3)", x.thing(2, 3), 4);
        due("move(999, 1)", x.move(999, 1), 0);
        due("move(250, 251)", x.move(250, 251), 1);
        due("count(1)", x.count(1), 3);
        due("count(11)", x.count(11), 4);
        moveOfFullBench();
    }

    private static void moveOfFullBench() {
        JoinedLight x = new JoinedLight();
        for (int place = 10; place <= 80; place += 10) {
            x.slit(place, 0, place);
        }
        due("move(10, 999)", x.move(10, 999), 7);
        due("move(999, 45)", x.move(999, 45), 3);
        due("thing(3, 3)", x.thing(3, 3), 10);
        due("count(1)", x.count(1), 8);
    }

    private static void set() {
        Due.part("promise 8");
        JoinedLight x = Scene.rainbow();
        due("set(-1, 5)", x.set(-1, 5), INVALID);
        due("set(1, 5)", x.set(1, 5), INVALID);
        due("set(0, 0)", x.set(0, 0), INVALID);
        due("set(0, 501)", x.set(0, 501), INVALID);
        due("set(0, -20)", x.set(0, -20), INVALID);
        due("count(20)", x.count(20), 20);
        due("set(0, 1)", x.set(0, 1), 20);
        due("lineOf(0, 5)", x.lineOf(0, 5), 261);
        due("set(0, 500)", x.set(0, 500), 1);
        due("lineOf(0, 5)", x.lineOf(0, 5), 0);
        due("set(0, 500)", x.set(0, 500), 500);
        due("count(20)", x.count(20), 500);
    }

    private static void lineOf() {
        Due.part("promise 9");
        JoinedLight x = Scene.rainbow();
        due("lineOf(3, 0)", x.lineOf(3, 0), INVALID);
        due("lineOf(-1, 0)", x.lineOf(-1, 0), INVALID);
        due("lineOf(0, -1)", x.lineOf(0, -1), INVALID);
        due("lineOf(0, 8)", x.lineOf(0, 8), INVALID);
        int[] comes = {400, 100, 1, 261, 290, 13, NOT_FOUND, NOT_FOUND};
        x.slit(600, 140, 150);
        int[] lost = {780, 50, 0, NOT_FOUND, NOT_FOUND, NOT_FOUND, 600, 1};
        for (int what = 0; what <= 7; what++) {
            due("lineOf(0, " + what + ")", x.lineOf(0, what), comes[what]);
            due("lineOf(2, " + what + ")", x.lineOf(2, what), lost[what]);
        }
        JoinedLight y = new JoinedLight();
        y.line(780, 3);
        y.prism(500, 0, 40, -1);
        due("height below 0", y.lineOf(0, 3), -100);
        due("cell of -100", y.lineOf(0, 5), -5);
        y.set(0, 30);
        due("cell of -100, 30 wide", y.lineOf(0, 5), -4);
        y.move(500, 999);
        due("-200 * 1 / 1000 rounded down", y.lineOf(0, 3), -1);
        due("cell of -1", y.lineOf(0, 5), -1);
    }

    /** Six prisms at 1 to 6 turn the line to a slope of 2970, which is beyond the height at 500. */
    private static void linesBeyondTheHeight() {
        Due.part("promise 9, beyond the height");
        for (int turned = -1; turned <= 1; turned += 2) {
            JoinedLight x = new JoinedLight();
            x.line(780, 9);
            for (int i = 1; i <= 6; i++) {
                x.prism(i, 1, 99, turned);
            }
            due("lineOf(0, 6) at the screen", x.lineOf(0, 6), 1000);
            due("lineOf(0, 7)", x.lineOf(0, 7), 2);
            due("count(9)", x.count(9), 9);
            due("count(8)", x.count(8), 0);
            x.slit(500, 5000, 5000);
            due("lineOf(0, 6) ahead of a slit", x.lineOf(0, 6), 500);
            due("lineOf(0, 7)", x.lineOf(0, 7), 2);
            due("count(9)", x.count(9), 0);
            due("count(8)", x.count(8), 9);
            due("thing(6, 5)", x.thing(6, 5), 0);
            due("thing(6, 6)", x.thing(6, 6), 9);
            due("thing(5, 5)", x.thing(5, 5), 1);
        }
        edgesOfTheHeight();
    }

    /** A prism at 1 and one at 2: upward the line comes to (slope * 998) / 1000, downward to that less 1. */
    private static void edgesOfTheHeight() {
        due("slope 480 + 522", steepLine(96, 87, 1).lineOf(0, 3), 999);
        due("slope 475 + 528", steepLine(95, 88, 1).lineOf(0, 3), NOT_FOUND);
        due("slope 475 + 528, height(0, 999)", steepLine(95, 88, 1).height(0, 999), 999);
        due("slope 475 + 528, height(0, 1000)", steepLine(95, 88, 1).height(0, 1000), NOT_FOUND);
        due("slope 475 + 528, place", steepLine(95, 88, 1).lineOf(0, 6), 1000);
        due("slope -490 - 510", steepLine(98, 85, -1).lineOf(0, 3), -999);
        due("slope -485 - 516", steepLine(97, 86, -1).lineOf(0, 3), NOT_FOUND);
        JoinedLight y = steepLine(99, 99, -1);
        due("slope -1089, height(0, 918)", y.height(0, 918), -999);
        due("slope -1089, height(0, 919)", y.height(0, 919), NOT_FOUND);
    }

    private static JoinedLight steepLine(int crown, int flint, int turned) {
        JoinedLight x = new JoinedLight();
        x.line(780, 1);
        x.prism(1, 0, crown, turned);
        x.prism(2, 1, flint, turned);
        return x;
    }

    private static void thing() {
        Due.part("promise 10");
        JoinedLight x = Scene.rainbow();
        x.slit(600, 130, 150);
        x.prism(700, 0, 8, -1);
        due("thing(-1, 0)", x.thing(-1, 0), INVALID);
        due("thing(LEAST, 0)", x.thing(LEAST, 0), INVALID);
        due("thing(0, -1)", x.thing(0, -1), INVALID);
        due("thing(0, 7)", x.thing(0, 7), INVALID);
        due("thing(9, 7)", x.thing(9, 7), INVALID);
        due("thing(3, 0)", x.thing(3, 0), NOT_FOUND);
        due("thing(GREATEST, 6)", x.thing(GREATEST, 6), NOT_FOUND);
        int[][] wanted = {
            {100, 0, 1, 40, 1, 7, 0},
            {600, 1, 130, 150, NOT_FOUND, 7, 50},
            {700, 0, 0, 8, 2, 3, 0},
        };
        for (int index = 0; index < wanted.length; index++) {
            for (int what = 0; what <= 6; what++) {
                due("thing(" + index + ", " + what + ")", x.thing(index, what), wanted[index][what]);
            }
        }
    }

    private static void height() {
        Due.part("promise 11");
        JoinedLight x = Scene.rainbow();
        x.slit(600, 130, 150);
        due("height(-1, 0)", x.height(-1, 0), INVALID);
        due("height(3, 0)", x.height(3, 0), INVALID);
        due("height(0, -1)", x.height(0, -1), INVALID);
        due("height(0, 1001)", x.height(0, 1001), INVALID);
        due("height(0, 0)", x.height(0, 0), 0);
        due("height(0, 100)", x.height(0, 100), 0);
        due("height(0, 101)", x.height(0, 101), 0);
        due("height(0, 104)", x.height(0, 104), 1);
        due("height(0, 600)", x.height(0, 600), 145);
        due("height(0, 601)", x.height(0, 601), 145);
        due("height(0, 1000)", x.height(0, 1000), 261);
        due("height(2, 600)", x.height(2, 600), 120);
        due("height(2, 601)", x.height(2, 601), NOT_FOUND);
        due("height(2, 1000)", x.height(2, 1000), NOT_FOUND);
        JoinedLight y = new JoinedLight();
        y.line(780, 1);
        for (int i = 1; i <= 5; i++) {
            y.prism(i, 1, 99, 1);
        }
        due("slope of 2970, height(0, 340)", y.height(0, 340), 998);
        due("height(0, 341)", y.height(0, 341), NOT_FOUND);
        due("height(0, 1000)", y.height(0, 1000), NOT_FOUND);
    }

    private static void light() {
        Due.part("promise 12");
        JoinedLight x = Scene.rainbow();
        due("light(-10000)", x.light(-10000), INVALID);
        due("light(10000)", x.light(10000), INVALID);
        due("light(LEAST)", x.light(LEAST), INVALID);
        due("light(9999)", x.light(9999), 0);
        due("light(-9999)", x.light(-9999), 0);
        due("light(13)", x.light(13), 100);
        due("light(11)", x.light(11), 200);
        due("light(10)", x.light(10), 50);
        due("light(12)", x.light(12), 0);
        x.set(0, 40);
        due("light(5)", x.light(5), 250);
        due("light(6)", x.light(6), 100);
        x.slit(600, 121, 999);
        due("light(5) without the line 2", x.light(5), 200);
        x.take(100);
        x.take(600);
        due("light(0)", x.light(0), 350);
        due("light(-1)", x.light(-1), 0);
    }

    private static void bright() {
        Due.part("promise 13");
        JoinedLight x = Scene.rainbow();
        due("bright(-1, 0)", x.bright(-1, 0), INVALID);
        due("bright(0, -1)", x.bright(0, -1), INVALID);
        due("bright(0, 3)", x.bright(0, 3), INVALID);
        due("bright(3, 3)", x.bright(3, 3), INVALID);
        int[][] wanted = {{11, 200, 2}, {13, 100, 1}, {10, 50, 4}};
        for (int index = 0; index < 3; index++) {
            for (int what = 0; what < 3; what++) {
                due("bright(" + index + ", " + what + ")", x.bright(index, what), wanted[index][what]);
            }
        }
        due("bright(3, 0)", x.bright(3, 0), NOT_FOUND);
        due("bright(GREATEST, 2)", x.bright(GREATEST, 2), NOT_FOUND);
        x.dim(2, 200);
        x.dim(0, 200);
        due("the lowest of three", x.bright(0, 0), 10);
        due("the middle of three", x.bright(1, 0), 11);
        due("the highest of three", x.bright(2, 0), 13);
        x.line(779, 1);
        due("the brightest by a line more", x.bright(0, 1), 201);
        due("its lines", x.bright(0, 2), 12);
        x.slit(600, 121, 999);
        due("without them", x.bright(0, 0), 11);
        due("two are left", x.bright(2, 0), NOT_FOUND);
    }

    private static void bending() {
        Due.part("promise 14");
        JoinedLight x = new JoinedLight();
        due("bending(-1, 500)", x.bending(-1, 500), INVALID);
        due("bending(2, 500)", x.bending(2, 500), INVALID);
        due("bending(0, 379)", x.bending(0, 379), INVALID);
        due("bending(1, 781)", x.bending(1, 781), INVALID);
        due("bending(0, 380)", x.bending(0, 380), 550);
        due("bending(1, 380)", x.bending(1, 380), 733);
        due("bending(0, 780)", x.bending(0, 780), 500);
        due("bending(1, 780)", x.bending(1, 780), 600);
        due("bending(0, 773)", x.bending(0, 773), 500);
        due("bending(0, 772)", x.bending(0, 772), 501);
        due("bending(1, 778)", x.bending(1, 778), 600);
        due("bending(1, 777)", x.bending(1, 777), 601);
    }

    private static void best() {
        Due.part("promise 15");
        JoinedLight x = Scene.rainbow();
        due("best(99, 0)", x.best(99, 0), INVALID);
        due("best(0, 0)", x.best(0, 0), INVALID);
        due("best(1000, 0)", x.best(1000, 0), INVALID);
        due("best(100, -1)", x.best(100, -1), INVALID);
        due("best(100, 3)", x.best(100, 3), INVALID);
        due("behind 990 the rises are 2, 2 and 2", x.best(100, 2), 0);
        due("best(100, 1)", x.best(100, 1), 3);
        due("best(100, 0)", x.best(100, 0), 990);
        x.slit(990, -9999, 9999);
        due("980 is the best if 990 is not free", x.best(100, 0), 980);
        due("with the slit behind the prism", x.best(100, 1), 3);
        due("the rises are 2 and 2 each", x.best(100, 2), 0);
        due("thing(0, 0) is where it was", x.thing(0, 0), 100);
        due("count(11)", x.count(11), 4);
        bestOfEqualOnes();
        bestPrefersArrivals();
    }

    private static void bestOfEqualOnes() {
        JoinedLight x = new JoinedLight();
        x.slit(505, 0, 0);
        due("without lines the least place", x.best(505, 0), 10);
        due("without lines none comes", x.best(505, 1), 0);
        due("without lines no spread", x.best(505, 2), 0);
        x.prism(10, 0, 1, 1);
        x.prism(20, 0, 1, 1);
        due("the least free place", x.best(505, 0), 30);
        due("its own place is free", x.best(10, 0), 10);
    }

    /** A slit that lets through 0 alone is best ahead of the prism, though the spread of none is less. */
    private static void bestPrefersArrivals() {
        JoinedLight x = Scene.rainbow();
        x.slit(600, 0, 0);
        due("count(2)", x.count(2), 0);
        due("best(600, 0)", x.best(600, 0), 10);
        due("best(600, 1)", x.best(600, 1), 3);
        due("best(600, 2)", x.best(600, 2), 45);
    }

    private static void alone() {
        Due.part("promise 16");
        JoinedLight x = Scene.rainbow();
        x.line(400, 5);
        due("alone(-1, 50)", x.alone(-1, 50), INVALID);
        due("alone(4, 50)", x.alone(4, 50), INVALID);
        due("alone(0, 0)", x.alone(0, 0), INVALID);
        due("alone(0, 1000)", x.alone(0, 1000), INVALID);
        due("alone(4, 100)", x.alone(4, 100), INVALID);
        due("alone(1, 100)", x.alone(1, 100), NOT_POSSIBLE);
        due("alone(1, 50)", x.alone(1, 50), NOT_POSSIBLE);
        due("alone(1, 600)", x.alone(1, 600), 133);
        due("alone(0, 600) beside the line 3", x.alone(0, 600), NOT_POSSIBLE);
        due("alone(1, 999)", x.alone(1, 999), 239);
        x.slit(500, 107, 999);
        due("alone(2, 600) of a lost line", x.alone(2, 600), NOT_FOUND);
        due("alone(2, 500) where a thing is", x.alone(2, 500), NOT_POSSIBLE);
        due("alone(1, 600)", x.alone(1, 600), NOT_FOUND);
        due("alone(2, 499)", x.alone(2, 499), 95);
        due("alone(1, 1)", x.alone(1, 1), NOT_POSSIBLE);
        aloneOfOneLine();
        aloneBesideLostLines();
    }

    private static void aloneOfOneLine() {
        JoinedLight x = new JoinedLight();
        x.line(780, 1);
        due("alone(0, 1)", x.alone(0, 1), 0);
        due("alone(0, 999)", x.alone(0, 999), 0);
        x.prism(1, 0, 20, 1);
        due("alone(0, 1) where a thing is", x.alone(0, 1), NOT_POSSIBLE);
        due("alone(0, 2)", x.alone(0, 2), 0);
        due("alone(0, 999)", x.alone(0, 999), 99);
        x.line(780, 1);
        due("alone(1, 999) beside the line 0", x.alone(1, 999), NOT_POSSIBLE);
    }

    /** Lines that height() does not find have no height that another one could have as well. */
    private static void aloneBesideLostLines() {
        JoinedLight x = new JoinedLight();
        x.line(780, 1);
        x.line(780, 1);
        for (int i = 1; i <= 5; i++) {
            x.prism(i, 1, 99, 1);
        }
        due("alone(0, 340) with the same height", x.alone(0, 340), NOT_POSSIBLE);
        due("alone(0, 341), both beyond the height", x.alone(0, 341), NOT_FOUND);
        JoinedLight y = new JoinedLight();
        y.line(380, 1);
        y.line(780, 1);
        y.prism(10, 1, 99, 1);
        y.slit(100, 60, 70);
        due("alone(0, 200) with the other one lost", y.alone(0, 200), 137);
        due("alone(1, 200)", y.alone(1, 200), NOT_FOUND);
    }

    private static void tuned() {
        Due.part("promise 17");
        JoinedLight x = Scene.rainbow();
        x.slit(600, 0, 300);
        due("tuned(600)", x.tuned(600), INVALID);
        due("tuned(0)", x.tuned(0), INVALID);
        due("tuned(1000)", x.tuned(1000), INVALID);
        due("tuned(101)", x.tuned(101), INVALID);
        due("the weakest one spreads least", x.tuned(100), 1);
        x.prism(200, 1, 99, -1);
        due("thing(1, 3)", x.thing(1, 3), 99);
        due("count(11)", x.count(11), 4);
        JoinedLight y = Scene.rainbow();
        y.prism(101, 1, 1, -1);
        due("as strong as the one ahead", y.tuned(101), 40);
        due("thing(1, 3)", y.thing(1, 3), 1);
        y.slit(600, 100, 999);
        due("above 6 the line 2 is lost; 5 and 6 spread by 39", y.tuned(101), 5);
        JoinedLight z = new JoinedLight();
        z.prism(500, 0, 50, 1);
        due("without lines the least", z.tuned(500), 1);
        JoinedLight steep = new JoinedLight();
        steep.line(780, 1);
        steep.prism(100, 1, 10, 1);
        steep.prism(200, 1, 99, 1);
        steep.slit(999, 528, 600);
        due("the line comes by the strongest alone", steep.tuned(200), 99);
    }

    private static void share() {
        Due.part("promise 18");
        JoinedLight x = new JoinedLight();
        due("without lines", x.share(), NOT_FOUND);
        x.prism(5, 1, 10, 1);
        due("without lines", x.share(), NOT_FOUND);
        JoinedLight y = Scene.rainbow();
        due("all", y.share(), Float.floatToRawIntBits(1f));
        y.slit(600, 134, 999);
        due("100 of 350", y.share(), Float.floatToRawIntBits(100f / 350f));
        y.dim(1, 1);
        due("100 of 151", y.share(), Float.floatToRawIntBits(100f / 151f));
        y.take(600);
        y.slit(600, 9999, 9999);
        due("none", y.share(), 0);
        JoinedLight z = new JoinedLight();
        z.line(500, 1);
        due("1 of 1", z.share(), Float.floatToRawIntBits(1f));
        eachShare();
    }

    private static void eachShare() {
        JoinedLight x = new JoinedLight();
        x.line(380, 1);
        x.line(780, 1);
        x.prism(1, 1, 99, 1);
        x.slit(999, 700, 999);
        for (int light = 1; light <= 250; light++) {
            x.dim(0, light);
            due(light + " of " + (light + 1), x.share(), Float.floatToRawIntBits(light / (float) (light + 1)));
        }
        JoinedLight y = new JoinedLight();
        y.line(380, 1);
        for (int i = 1; i < 8; i++) {
            y.line(780, 999);
        }
        y.prism(1, 1, 99, 1);
        y.slit(999, 700, 999);
        due("1 of 6994", y.share(), Float.floatToRawIntBits(1f / 6994f));
    }

    private static void count() {
        Due.part("promise 19");
        JoinedLight x = Scene.rainbow();
        x.slit(600, 121, 999);
        Scene.write(x, "l5");
        int[] wanted = {3, 2, 3, 22, 0, 0, 350, 300, 50, 0, 2, 4, 2};
        for (int what = 0; what <= 12; what++) {
            due("count(" + what + ")", x.count(what), wanted[what]);
        }
        due("count(20)", x.count(20), 20);
        int[] wrong = {-1, 13, 14, 19, 21, LEAST, GREATEST};
        for (int what : wrong) {
            due("count(" + what + ")", x.count(what), INVALID);
        }
        countOfJoinedLight();
    }

    private static void countOfJoinedLight() {
        JoinedLight x = new JoinedLight();
        due("joined without lines", x.count(4), 0);
        due("as it was without lines", x.count(5), 0);
        x.line(400, 1);
        x.line(700, 1);
        due("joined", x.count(4), 1);
        due("as it was", x.count(5), 1);
        x.prism(999, 1, 99, 1);
        due("joined, 0 beside 0", x.count(4), 1);
        due("with other slopes", x.count(5), 0);
        x.slit(998, 1, 1);
        due("none comes", x.count(4), 0);
        due("none comes, as it was", x.count(5), 0);
        JoinedLight y = Scene.rainbow();
        y.set(0, 500);
        due("three in a cell", y.count(4), 1);
        y.slit(600, 121, 999);
        due("a line is lost", y.count(4), 0);
        due("a line is lost, as it was", y.count(5), 0);
        due("spread of the others", y.count(3), 22);
    }

    private static void undo() {
        Due.part("promise 20");
        JoinedLight x = new JoinedLight();
        due("undo()", x.undo(), NOT_POSSIBLE);
        for (int i = 0; i < 6; i++) {
            x.line(500, i + 1);
            due("count(11)", x.count(11), i < 4 ? i + 1 : 4);
        }
        for (int left = 3; left >= 0; left--) {
            due("undo()", x.undo(), left);
            due("count(0)", x.count(0), left + 2);
        }
        due("undo()", x.undo(), NOT_POSSIBLE);
        due("count(0)", x.count(0), 2);
        due("lineOf(1, 1)", x.lineOf(1, 1), 2);
        x.line(700, 9);
        due("undo()", x.undo(), 0);
        due("undo()", x.undo(), NOT_POSSIBLE);
    }

    private static void undoOfEachChange() {
        JoinedLight x = Scene.rainbow();
        x.dim(0, 7);
        x.move(100, 200);
        x.set(0, 33);
        x.take(200);
        Scene.write(x, "x5;");
        due("undo() of take", x.undo(), 3);
        due("thing(0, 0)", x.thing(0, 0), 200);
        due("undo() of set", x.undo(), 2);
        due("count(20)", x.count(20), 20);
        due("undo() of move", x.undo(), 1);
        due("thing(0, 0)", x.thing(0, 0), 100);
        due("thing(0, 3)", x.thing(0, 3), 40);
        due("undo() of dim", x.undo(), 0);
        due("lineOf(0, 1)", x.lineOf(0, 1), 100);
        due("the text stays", x.count(12), 3);
        x.slit(5, 0, 0);
        x.slit(5, 0, 0);
        x.take(6);
        x.dim(9, 9);
        due("errors are no changes", x.count(11), 1);
        due("undo() of slit", x.undo(), 0);
        due("count(1)", x.count(1), 1);
    }

    private static void type() {
        Due.part("promise 21");
        JoinedLight x = new JoinedLight();
        due("type(31)", x.type(31), INVALID);
        due("type(127)", x.type(127), INVALID);
        due("type(-1)", x.type(-1), INVALID);
        due("type(65536 + 'x')", x.type(65536 + 'x'), INVALID);
        due("type(32)", x.type(32), 1);
        due("type(126)", x.type(126), 2);
        for (int i = 3; i <= 60; i++) {
            due("type('x')", x.type('x'), i);
        }
        due("type('x')", x.type('x'), LIMIT);
        due("type(127)", x.type(127), INVALID);
        due("count(12)", x.count(12), 60);
        due("count(11)", x.count(11), 0);
    }

    private static void clearText() {
        Due.part("promise 22");
        JoinedLight x = new JoinedLight();
        due("clearText()", x.clearText(), 0);
        Scene.write(x, "l500,5;");
        due("clearText()", x.clearText(), 7);
        due("count(12)", x.count(12), 0);
        due("play()", x.play(), 0);
        due("count(0)", x.count(0), 0);
        for (int i = 0; i < 70; i++) {
            x.type('x');
        }
        due("clearText()", x.clearText(), 60);
        due("type('x')", x.type('x'), 1);
    }

    private static void fault() {
        Due.part("promise 23");
        JoinedLight x = new JoinedLight();
        due("fault(-1)", x.fault(-1), INVALID);
        due("fault(3)", x.fault(3), INVALID);
        due("fault(0) of nothing", x.fault(0), NOT_FOUND);
        due("fault(1) of nothing", x.fault(1), NOT_FOUND);
        due("fault(2) of nothing", x.fault(2), NOT_FOUND);
        Scene.write(x, "l500,5;u0010,1,099;d20,0,1;s30,0;x10;");
        due("fault(0) of a good text", x.fault(0), NOT_FOUND);
        due("fault(2) of a good text", x.fault(2), NOT_FOUND);
        due("nothing is done", x.count(0) + x.count(1) + x.count(11), 0);
    }

    private static void faultOfForm() {
        fault(";", 0, 1, 0);
        fault("L500,5;", 0, 1, 0);
        fault(" l500,5;", 0, 1, 0);
        fault("l", 0, 1, 1);
        fault("l;", 0, 1, 1);
        fault("l500", 0, 1, 4);
        fault("l500;", 0, 1, 4);
        fault("l500,", 0, 1, 5);
        fault("l500,,", 0, 1, 5);
        fault("l500,5", 0, 1, 6);
        fault("l500,5,", 0, 1, 6);
        fault("l00500,5;", 0, 1, 5);
        fault("l500,00005;", 0, 1, 9);
        fault("l-1,5;", 0, 1, 1);
        fault("u1,0;", 0, 1, 4);
        fault("u1,0,5", 0, 1, 6);
        fault("d1,0,5,1;", 0, 1, 6);
        fault("s5;", 0, 1, 2);
        fault("s5,-1;", 0, 1, 3);
        fault("x;", 0, 1, 1);
        fault("x5,5;", 0, 1, 2);
        fault("l500,5;s10,3;x10,", 13, 1, 3);
        fault("l500,5; x5;", 7, 1, 0);
        fault("l500,5;l500,5;u5", 14, 1, 2);
    }

    private static void faultOfCall() {
        fault("l379,5;", 0, 2, INVALID);
        fault("l500,5;l500,1000;", 7, 2, INVALID);
        fault("u5,2,5;", 0, 2, INVALID);
        fault("u5,0,100;", 0, 2, INVALID);
        fault("d1000,0,5;", 0, 2, INVALID);
        fault("s0,5;", 0, 2, INVALID);
        fault("x5;", 0, 2, INVALID);
        fault("s5,5;x5;x5;", 8, 2, INVALID);
        fault("s5,5;u5,0,1;", 5, 2, NOT_POSSIBLE);
        fault("x5;q", 0, 2, INVALID);
        fault("s1,0;s2,0;s3,0;s4,0;s5,0;s6,0;s7,0;s8,0;s8,0;", 40, 2, NOT_POSSIBLE);
        fault("s1,0;s2,0;s3,0;s4,0;s5,0;s6,0;s7,0;s8,0;s9,0;", 40, 2, LIMIT);
        JoinedLight x = new JoinedLight();
        for (int i = 0; i < 7; i++) {
            x.line(500, 1);
        }
        Scene.write(x, "l500,5;l500,6;");
        faultIn(x, "a ninth line", 7, 2, LIMIT);
        due("count(0)", x.count(0), 7);
        x.undo();
        due("fault(0) after undo", x.fault(0), NOT_FOUND);
    }

    private static void play() {
        Due.part("promise 24");
        JoinedLight x = new JoinedLight();
        due("play() of nothing", x.play(), 0);
        due("it is a change", x.count(11), 1);
        Scene.write(x, "l400,100;l580,200;l780,50;u100,1,40;s600,130;");
        due("play()", x.play(), 5);
        due("it is one change", x.count(11), 2);
        due("the text stays", x.count(12), 45);
        due("lineOf(0, 6)", x.lineOf(0, 6), 600);
        due("lineOf(2, 3)", x.lineOf(2, 3), 216);
        due("play() again", x.play(), NOT_POSSIBLE);
        due("fault(0)", x.fault(0), 26);
        due("an error is no change", x.count(11), 2);
        due("count(0)", x.count(0), 3);
        due("undo()", x.undo(), 1);
        due("count(0)", x.count(0), 0);
        due("count(1)", x.count(1), 0);
        due("count(12)", x.count(12), 45);
        due("play()", x.play(), 5);
        due("undo()", x.undo(), 1);
        due("undo()", x.undo(), 0);
    }

    private static void playOfEachOrder() {
        JoinedLight x = new JoinedLight();
        x.slit(7, 0, 0);
        Scene.write(x, "l0380,0999;u0010,1,0099;d20,0,05;s30,9999;s40,0;x0007;");
        due("play()", x.play(), 6);
        int[][] wanted = {{10, 0, 1, 99, 1}, {20, 0, 0, 5, 2}, {30, 1, -9999, 9999, NOT_FOUND}, {40, 1, 0, 0, NOT_FOUND}};
        for (int index = 0; index < 4; index++) {
            for (int what = 0; what < 5; what++) {
                due("thing(" + index + ", " + what + ")", x.thing(index, what), wanted[index][what]);
            }
        }
        due("lineOf(0, 0)", x.lineOf(0, 0), 380);
        due("lineOf(0, 1)", x.lineOf(0, 1), 999);
        due("thing(4, 0)", x.thing(4, 0), NOT_FOUND);
        JoinedLight y = new JoinedLight();
        Scene.write(y, "s1,0;x1;s1,0;x1;s1,0;x1;s1,0;x1;s1,0;x1;s1,0;x1;s1,0;x1;s1,");
        y.type('5');
        due("fault(2) of a full text", y.fault(2), 4);
        y.clearText();
        Scene.write(y, "s1,0;x1;s1,0;x1;s1,0;x1;s1,0;x1;s1,0;x1;s1,0;x1;s1,0;x1;");
        due("play() of 14 orders", y.play(), 14);
    }
}
