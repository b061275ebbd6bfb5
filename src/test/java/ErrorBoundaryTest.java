import java.util.function.ToIntFunction;

/** The boundary cases of changes, of the history and of refused calls: for each sentence of the terms a test of its own. */
public final class ErrorBoundaryTest {
    private static final int INVALID = Due.INVALID;
    private static final int NOT_POSSIBLE = Due.NOT_POSSIBLE;
    private static final int LIMIT = Due.LIMIT;
    private static final int NOT_FOUND = Due.NOT_FOUND;
    private static final int LEAST = Scene.LEAST;
    private static final int GREATEST = Scene.GREATEST;

    public static void main(String[] args) {
        eachChangeIsRecorded();
        changesToWhatWasAreRecorded();
        otherCallsAreNoChanges();
        refusedCallsAreNoChanges();
        mostStates();
        oldestStateIsDropped();
        everythingIsRecorded();
        textIsNotRecorded();
        notPossibleBehindInvalid();
        limitBehindInvalid();
        notFoundBehindInvalid();
        limitBehindNotPossible();
        notFoundBehindNotPossible();
        refusedLampCallsChangeNothing();
        refusedPrismsAndSlitsChangeNothing();
        refusedTakesMovesAndSetsChangeNothing();
        refusedQuestionsChangeNothing();
        refusedTextsChangeNothing();
        refusedUndoChangesNothing();
        noSuchLine();
        nothingAtThePlace();
        Due.end();
    }

    private static void due(String call, long got, long want) {
        Due.due(call, got, want);
    }

    private static void eachChangeIsRecorded() {
        Due.part("term 'The changes are the calls of line, dim, prism, slit, take, move, set and play'");
        recorded("line(500, 5)", x -> x.line(500, 5), 1);
        recorded("dim(0, 5)", x -> x.dim(0, 5), 7);
        recorded("prism(5, 0, 1, 1)", x -> x.prism(5, 0, 1, 1), 2);
        recorded("slit(5, 0, 0)", x -> x.slit(5, 0, 0), 2);
        recorded("take(100)", x -> x.take(100), 0);
        recorded("move(100, 200)", x -> x.move(100, 200), 0);
        recorded("set(0, 500)", x -> x.set(0, 500), 20);
        recorded("play()", x -> x.play(), 1);
    }

    /** A call that is a change on a line, a slit at 100 and the text "s7,7;": two states are there before it. */
    private static void recorded(String name, ToIntFunction<JoinedLight> call, int want) {
        JoinedLight x = Scene.written("s7,7;");
        x.line(400, 7);
        x.slit(100, -5, 5);
        String before = Scene.seen(x);
        due(name, call.applyAsInt(x), want);
        due("count(11) after " + name, x.count(11), 3);
        Due.holds(name + " changes nothing", !before.equals(Scene.seen(x)));
        due("undo() of " + name, x.undo(), 2);
        Due.holds(name + " is not undone", before.equals(Scene.seen(x)));
    }

    private static void changesToWhatWasAreRecorded() {
        Due.part("term 'The changes are the calls .. that return no error', also to what it was");
        JoinedLight x = Scene.lamp(500);
        due("dim(0, 1) to 1", x.dim(0, 1), 1);
        due("count(11)", x.count(11), 2);
        due("set(0, 20) to 20", x.set(0, 20), 20);
        due("count(11)", x.count(11), 3);
        due("undo()", x.undo(), 2);
        due("undo()", x.undo(), 1);
        due("count(0)", x.count(0), 1);
    }

    private static void otherCallsAreNoChanges() {
        Due.part("term 'The changes are the calls of ..', of the other calls");
        JoinedLight x = Scene.lamp(400, 780);
        x.prism(100, 1, 40, 1);
        x.lineOf(0, 3);
        x.thing(0, 5);
        x.height(0, 500);
        x.light(0);
        x.bright(0, 0);
        x.bending(0, 500);
        x.best(100, 0);
        x.alone(0, 500);
        x.tuned(100);
        x.share();
        x.count(5);
        x.type('x');
        x.fault(0);
        x.clearText();
        due("count(11)", x.count(11), 3);
        due("undo()", x.undo(), 2);
        due("undo() is none of them", x.count(11), 2);
        due("undo()", x.undo(), 1);
        due("undo()", x.undo(), 0);
        due("undo()", x.undo(), NOT_POSSIBLE);
    }

    private static void refusedCallsAreNoChanges() {
        Due.part("term 'The changes are the calls .. that return no error', of calls that return one");
        JoinedLight x = Scene.written("?");
        x.slit(100, 0, 0);
        due("line(379, 1)", x.line(379, 1), INVALID);
        due("dim(0, 1)", x.dim(0, 1), INVALID);
        due("prism(100, 0, 1, 1)", x.prism(100, 0, 1, 1), NOT_POSSIBLE);
        due("slit(100, 0, 0)", x.slit(100, 0, 0), NOT_POSSIBLE);
        due("take(101)", x.take(101), INVALID);
        due("move(100, 100)", x.move(100, 100), NOT_POSSIBLE);
        due("set(1, 5)", x.set(1, 5), INVALID);
        due("play()", x.play(), NOT_POSSIBLE);
        due("count(11)", x.count(11), 1);
        due("undo()", x.undo(), 0);
        due("count(1)", x.count(1), 0);
    }

    private static void mostStates() {
        Due.part("term 'A history of at most 4 states is kept'");
        JoinedLight x = new JoinedLight();
        int[] states = {1, 2, 3, 4, 4, 4, 4, 4};
        for (int k = 0; k < states.length; k++) {
            x.line(500, 5);
            due("count(11) after " + (k + 1) + " changes", x.count(11), states[k]);
        }
        x.line(500, 5);
        due("count(11) after a line more than there can be", x.count(11), 4);
    }

    private static void oldestStateIsDropped() {
        Due.part("term 'if there are 5 states then, the oldest one is dropped'");
        JoinedLight four = Scene.withLines(4);
        for (int left = 3; left >= 0; left--) {
            due("undo() of the fourth and so on", four.undo(), left);
            due("count(0)", four.count(0), left);
        }
        due("undo() with none left", four.undo(), NOT_POSSIBLE);
        JoinedLight five = Scene.withLines(5);
        for (int left = 3; left >= 0; left--) {
            due("undo() of the fifth and so on", five.undo(), left);
            due("count(0)", five.count(0), left + 1);
        }
        due("undo() with none left", five.undo(), NOT_POSSIBLE);
        due("count(0)", five.count(0), 1);
        JoinedLight x = Scene.withLines(7);
        x.undo();
        x.undo();
        x.line(700, 1);
        due("count(11)", x.count(11), 3);
        x.line(701, 2);
        x.line(702, 3);
        int[] colours = {701, 700, 504, 503};
        for (int i = 0; i < colours.length; i++) {
            due("undo() after undo() and changes", x.undo(), 3 - i);
            due("the last line", x.lineOf(x.count(0) - 1, 0), colours[i]);
        }
    }

    private static void everythingIsRecorded() {
        Due.part("term 'each change records everything before it'");
        JoinedLight x = Scene.withLines(8);
        for (int place = 100; place <= 800; place += 100) {
            x.prism(place, place / 100 % 2, place / 10, place % 200 == 0 ? 1 : -1);
        }
        x.set(0, 77);
        String before = Scene.seen(x);
        x.dim(7, 999);
        x.move(100, 999);
        x.set(0, 1);
        x.take(800);
        for (int left = 3; left >= 0; left--) {
            due("undo()", x.undo(), left);
        }
        due("count(11)", x.count(11), 0);
        x.play();
        x.play();
        x.play();
        x.play();
        Due.holds("not all is as it was", before.equals(Scene.seen(x)));
    }

    private static void textIsNotRecorded() {
        Due.part("term 'records everything before it but the text'");
        JoinedLight x = Scene.written("s5,5;");
        x.line(500, 5);
        Scene.write(x, "x5;");
        due("undo()", x.undo(), 0);
        due("count(12)", x.count(12), 8);
        due("play()", x.play(), 2);
        due("clearText()", x.clearText(), 8);
        due("undo()", x.undo(), 0);
        due("count(12)", x.count(12), 0);
    }

    private static void notPossibleBehindInvalid() {
        Due.part("term 'INVALID_ARGUMENT is returned rather than NOT_POSSIBLE'");
        JoinedLight x = Scene.withThings(2);
        x.line(500, 5);
        due("prism of strength 100 where a thing is", x.prism(100, 0, 100, 1), INVALID);
        due("prism of glass 2 where a thing is", x.prism(100, 2, 1, 1), INVALID);
        due("prism turned 0 where a thing is", x.prism(100, 0, 1, 0), INVALID);
        due("slit of 1 to 0 where a thing is", x.slit(100, 1, 0), INVALID);
        due("slit of -10000 where a thing is", x.slit(100, -10000, 0), INVALID);
        due("move of nothing to a thing", x.move(101, 100), INVALID);
        due("move of nothing to the same place", x.move(101, 101), INVALID);
        due("alone of no line where a thing is", x.alone(1, 100), INVALID);
    }

    private static void limitBehindInvalid() {
        Due.part("term 'INVALID_ARGUMENT .. rather than .. LIMIT_REACHED'");
        JoinedLight lamp = Scene.withLines(8);
        due("a ninth line of colour 379", lamp.line(379, 5), INVALID);
        due("a ninth line of light 0", lamp.line(500, 0), INVALID);
        JoinedLight x = Scene.withThings(8);
        due("a ninth thing at 0", x.prism(0, 0, 1, 1), INVALID);
        due("a ninth thing of strength 0", x.prism(5, 0, 0, 1), INVALID);
        due("a ninth thing at 1000", x.slit(1000, 0, 0), INVALID);
        due("a ninth thing of 1 to 0", x.slit(5, 1, 0), INVALID);
        JoinedLight text = new JoinedLight();
        for (int i = 0; i < 60; i++) {
            text.type('x');
        }
        due("a character 31 behind 60", text.type(31), INVALID);
        due("a character 127 behind 60", text.type(127), INVALID);
    }

    private static void notFoundBehindInvalid() {
        Due.part("term 'INVALID_ARGUMENT .. rather than .. NOT_FOUND'");
        JoinedLight x = Scene.steepRamp(1);
        due("lineOf(0, 8) of a lost line", x.lineOf(0, 8), INVALID);
        due("lineOf(1, 3) of no line", x.lineOf(1, 3), INVALID);
        due("thing(2, 7) of no thing", x.thing(2, 7), INVALID);
        due("thing(2, -1) of no thing", x.thing(2, -1), INVALID);
        due("bright(0, 3) without light", x.bright(0, 3), INVALID);
        due("bright(-1, 0) without light", x.bright(-1, 0), INVALID);
        due("height(0, 1001) of a lost line", x.height(0, 1001), INVALID);
        due("alone(0, 1000) of a lost line", x.alone(0, 1000), INVALID);
        due("fault(3) without a fault", x.fault(3), INVALID);
    }

    private static void limitBehindNotPossible() {
        Due.part("term 'NOT_POSSIBLE rather than LIMIT_REACHED'");
        JoinedLight x = Scene.withThings(8);
        due("a ninth prism where one is", x.prism(100, 0, 1, 1), NOT_POSSIBLE);
        due("a ninth prism where a slit is", x.prism(800, 0, 1, 1), NOT_POSSIBLE);
        due("a ninth slit where one is", x.slit(800, 0, 0), NOT_POSSIBLE);
        due("a ninth slit where a prism is", x.slit(700, 0, 0), NOT_POSSIBLE);
        due("a ninth prism elsewhere", x.prism(101, 0, 1, 1), LIMIT);
        due("a ninth slit elsewhere", x.slit(101, 0, 0), LIMIT);
    }

    private static void notFoundBehindNotPossible() {
        Due.part("term 'NOT_POSSIBLE rather than .. NOT_FOUND' (LIMIT_REACHED and NOT_FOUND no call has both)");
        JoinedLight x = Scene.steepRamp(1);
        due("alone(0, 930) of a lost line", x.alone(0, 930), NOT_FOUND);
        x.slit(930, 0, 0);
        due("alone(0, 930) of a line beyond the height where a thing is", x.alone(0, 930), NOT_POSSIBLE);
        x.slit(500, 0, 0);
        due("alone(0, 600) of a line lost by a slit", x.alone(0, 600), NOT_FOUND);
        x.slit(600, 0, 0);
        due("alone(0, 600) of it where a thing is", x.alone(0, 600), NOT_POSSIBLE);
    }

    /** 8 lines, 8 things, the text "s5,5;x6;" and a history of 4 states, by 24 calls. */
    private static JoinedLight full() {
        JoinedLight x = Scene.withThings(8);
        for (int k = 0; k < 8; k++) {
            x.line(400 + 40 * k, 100 + k);
        }
        Scene.write(x, "s5,5;x6;");
        return x;
    }

    private static void refused(String name, ToIntFunction<JoinedLight> call, int want) {
        refusedOn(full(), full(), name, call, want);
    }

    /** The two objects are the same; the call is done on the first one alone. */
    private static void refusedOn(JoinedLight x, JoinedLight twin, String name, ToIntFunction<JoinedLight> call, int want) {
        due(name, call.applyAsInt(x), want);
        Due.holds(name + " changes something", Scene.seen(x).equals(Scene.seen(twin)));
        for (int i = 0; i < 5; i++) {
            due("undo() after " + name, x.undo(), twin.undo());
            Due.holds(name + " changes the history", Scene.seen(x).equals(Scene.seen(twin)));
        }
    }

    private static void refusedLampCallsChangeNothing() {
        Due.part("term 'A call that returns an error changes nothing', of line and dim");
        refused("line(379, 5)", x -> x.line(379, 5), INVALID);
        refused("line(500, 5)", x -> x.line(500, 5), LIMIT);
        refused("dim(8, 5)", x -> x.dim(8, 5), INVALID);
        refused("dim(-1, 5)", x -> x.dim(-1, 5), INVALID);
        refused("dim(0, 0)", x -> x.dim(0, 0), INVALID);
        refused("dim(7, 1000)", x -> x.dim(7, 1000), INVALID);
    }

    private static void refusedPrismsAndSlitsChangeNothing() {
        Due.part("term 'A call that returns an error changes nothing', of prism and slit");
        refused("prism(100, 1, 99, 1)", x -> x.prism(100, 1, 99, 1), NOT_POSSIBLE);
        refused("prism(101, 1, 99, 1)", x -> x.prism(101, 1, 99, 1), LIMIT);
        refused("prism(101, 1, 100, 1)", x -> x.prism(101, 1, 100, 1), INVALID);
        refused("slit(800, 0, 0)", x -> x.slit(800, 0, 0), NOT_POSSIBLE);
        refused("slit(801, 0, 0)", x -> x.slit(801, 0, 0), LIMIT);
        refused("slit(801, 0, -1)", x -> x.slit(801, 0, -1), INVALID);
    }

    private static void refusedTakesMovesAndSetsChangeNothing() {
        Due.part("term 'A call that returns an error changes nothing', of take, move and set");
        refused("take(801)", x -> x.take(801), INVALID);
        refused("take(0)", x -> x.take(0), INVALID);
        refused("move(100, 200)", x -> x.move(100, 200), NOT_POSSIBLE);
        refused("move(100, 100)", x -> x.move(100, 100), NOT_POSSIBLE);
        refused("move(100, 0)", x -> x.move(100, 0), INVALID);
        refused("move(100, 1000)", x -> x.move(100, 1000), INVALID);
        refused("move(101, 102)", x -> x.move(101, 102), INVALID);
        refused("set(0, 0)", x -> x.set(0, 0), INVALID);
        refused("set(0, 501)", x -> x.set(0, 501), INVALID);
        refused("set(1, 30)", x -> x.set(1, 30), INVALID);
    }

    private static void refusedQuestionsChangeNothing() {
        Due.part("term 'A call that returns an error changes nothing', of questions");
        refused("lineOf(8, 0)", x -> x.lineOf(8, 0), INVALID);
        refused("thing(8, 0)", x -> x.thing(8, 0), NOT_FOUND);
        refused("height(0, 1001)", x -> x.height(0, 1001), INVALID);
        refused("light(10000)", x -> x.light(10000), INVALID);
        refused("bright(8, 0)", x -> x.bright(8, 0), NOT_FOUND);
        refused("bending(2, 500)", x -> x.bending(2, 500), INVALID);
        refused("best(101, 0)", x -> x.best(101, 0), INVALID);
        refused("alone(0, 100)", x -> x.alone(0, 100), NOT_POSSIBLE);
        refused("tuned(200)", x -> x.tuned(200), INVALID);
        refused("count(13)", x -> x.count(13), INVALID);
    }

    private static void refusedTextsChangeNothing() {
        Due.part("term 'A call that returns an error changes nothing', of texts");
        refused("type(31)", x -> x.type(31), INVALID);
        refused("fault(3)", x -> x.fault(3), INVALID);
        refused("play()", x -> x.play(), NOT_POSSIBLE);
        JoinedLight x = Scene.written("l500,5;l500,5;l500,5;l500,5;s1,0;s2,0;s3,0;s4,0;s5,0;s6,0;s7");
        String before = Scene.seen(x);
        due("count(12)", x.count(12), 60);
        due("type(';') behind 60", x.type(';'), LIMIT);
        due("play() of all orders but one", x.play(), NOT_POSSIBLE);
        Due.holds("type(';') behind 60, or play(), changes something", before.equals(Scene.seen(x)));
        due("undo()", x.undo(), NOT_POSSIBLE);
    }

    private static void refusedUndoChangesNothing() {
        Due.part("term 'A call that returns an error changes nothing', of undo");
        JoinedLight x = full();
        for (int left = 3; left >= 0; left--) {
            due("undo()", x.undo(), left);
        }
        String before = Scene.seen(x);
        due("undo()", x.undo(), NOT_POSSIBLE);
        due("undo()", x.undo(), NOT_POSSIBLE);
        Due.holds("undo() of nothing changes something", before.equals(Scene.seen(x)));
        due("count(0)", x.count(0), 4);
        due("count(11)", x.count(11), 0);
    }

    private static void noSuchLine() {
        Due.part("term 'If there is no line with a certain number .. this is INVALID_ARGUMENT'");
        int[] wrong = {-1, 3, 8, LEAST, GREATEST};
        JoinedLight x = Scene.withLines(3);
        for (int line : wrong) {
            due("dim(" + line + ", 5)", x.dim(line, 5), INVALID);
            due("lineOf(" + line + ", 0)", x.lineOf(line, 0), INVALID);
            due("height(" + line + ", 5)", x.height(line, 5), INVALID);
            due("alone(" + line + ", 5)", x.alone(line, 5), INVALID);
        }
        due("dim(2, 5)", x.dim(2, 5), 12);
        due("lineOf(2, 0)", x.lineOf(2, 0), 502);
        due("height(2, 5)", x.height(2, 5), 0);
        JoinedLight none = new JoinedLight();
        due("dim(0, 5)", none.dim(0, 5), INVALID);
        due("lineOf(0, 0)", none.lineOf(0, 0), INVALID);
        due("height(0, 5)", none.height(0, 5), INVALID);
        due("alone(0, 5)", none.alone(0, 5), INVALID);
    }

    private static void nothingAtThePlace() {
        Due.part("term 'or nothing at a place, this is INVALID_ARGUMENT'");
        int[] wrong = {99, 101, 301, 0, 1000, -1, LEAST, GREATEST};
        JoinedLight x = Scene.withThings(3);
        for (int place : wrong) {
            due("take(" + place + ")", x.take(place), INVALID);
            due("move(" + place + ", 5)", x.move(place, 5), INVALID);
            due("best(" + place + ", 0)", x.best(place, 0), INVALID);
            due("tuned(" + place + ")", x.tuned(place), INVALID);
        }
        due("count(1)", x.count(1), 3);
        due("take(300)", x.take(300), 2);
        due("take(300) again", x.take(300), INVALID);
        due("best(300, 0) of what was taken", x.best(300, 0), INVALID);
        due("tuned(300) of what was taken", x.tuned(300), INVALID);
    }
}
