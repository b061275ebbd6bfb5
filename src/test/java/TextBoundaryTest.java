/** The boundary cases of texts: for each sentence of the terms and of promises 21 to 24 a test of its own. */
public final class TextBoundaryTest {
    private static final int INVALID = Due.INVALID;
    private static final int NOT_POSSIBLE = Due.NOT_POSSIBLE;
    private static final int LIMIT = Due.LIMIT;
    private static final int NOT_FOUND = Due.NOT_FOUND;

    public static void main(String[] args) {
        emptyAtFirst();
        mostCharacters();
        ordersEndWithASemicolon();
        orderOfALine();
        orderOfAPrismTurnedUp();
        orderOfAPrismTurnedDown();
        orderOfASlit();
        orderOfTaking();
        otherLetters();
        digitsOfNumbers();
        zerosAhead();
        positionOfTheFault();
        firstOfTheFaults();
        reasonOfForm();
        reasonOfCall();
        ordersAheadAreDone();
        whereItBreaksOff();
        whereTheTextEnds();
        whereAFullTextEnds();
        codeOfTheCall();
        typeLeastAndGreatest();
        typeTellsTheLength();
        typeOfAFullText();
        clearTextTellsTheLength();
        clearTextOfAFullText();
        clearTextLeavesNothingBehind();
        clearTextIsNoChange();
        faultWhat();
        faultOfNoFault();
        faultChangesNothing();
        playTellsHowMany();
        playOfTheMostOrders();
        playWithoutOrders();
        playIsOneChange();
        playLeavesTheText();
        playOfAFault();
        Due.end();
    }

    private static void due(String call, long got, long want) {
        Due.due(call, got, want);
    }

    private static void fault(String text, int position, int reason, int cause) {
        faultIn(Scene.written(text), text, position, reason, cause);
    }

    private static void faultIn(JoinedLight x, String text, int position, int reason, int cause) {
        due("fault(0) of " + text, x.fault(0), position);
        due("fault(1) of " + text, x.fault(1), reason);
        due("fault(2) of " + text, x.fault(2), cause);
        due("play() of " + text, x.play(), NOT_POSSIBLE);
    }

    private static void good(String text, int orders) {
        JoinedLight x = Scene.written(text);
        for (int what = 0; what <= 2; what++) {
            due("fault(" + what + ") of " + text, x.fault(what), NOT_FOUND);
        }
        due("play() of " + text, x.play(), orders);
    }

    private static void thingAfter(String text, int[] wanted) {
        JoinedLight x = Scene.written(text);
        due("play() of " + text, x.play(), 1);
        for (int what = 0; what < wanted.length; what++) {
            due("thing(0, " + what + ") after " + text, x.thing(0, what), wanted[what]);
        }
    }

    private static void emptyAtFirst() {
        Due.part("term 'a text .. initially empty'");
        due("count(12)", new JoinedLight().count(12), 0);
        due("clearText()", new JoinedLight().clearText(), 0);
        due("type('x')", new JoinedLight().type('x'), 1);
        due("play()", new JoinedLight().play(), 0);
        due("fault(0)", new JoinedLight().fault(0), NOT_FOUND);
    }

    private static void mostCharacters() {
        Due.part("term 'a text of at most 60 characters'");
        JoinedLight x = new JoinedLight();
        Scene.write(x, "s1,0;x1;s1,0;x1;s1,0;x1;s1,0;x1;s1,0;x1;s1,0;x1;s1,0;");
        Scene.write(x, "x00001");
        due("count(12)", x.count(12), 59);
        due("the last character", x.type(';'), 60);
        due("one more", x.type(';'), LIMIT);
        due("count(12)", x.count(12), 60);
        due("fault(0)", x.fault(0), 53);
        due("fault(2) of five digits", x.fault(2), 5);
        x.clearText();
        Scene.write(x, "s1,0;x1;s1,0;x1;s1,0;x1;s1,0;x1;s1,0;x1;s1,0;x1;s1,0;");
        Scene.write(x, "s02,00;");
        due("count(12) of a good text", x.count(12), 60);
        due("play() of all 60", x.play(), 14);
        due("the last of the orders is done", x.thing(1, 0), 2);
    }

    private static void ordersEndWithASemicolon() {
        Due.part("term 'orders, each followed by \";\"'");
        good("s5,5;", 1);
        fault("s5,5", 0, 1, 4);
        fault("s5,5;x5", 5, 1, 2);
        fault("s5,5x5;", 0, 1, 4);
        fault("s5,5:", 0, 1, 4);
        fault("s5,5 ;", 0, 1, 4);
        fault("s5,5;;", 5, 1, 0);
        fault(";s5,5;", 0, 1, 0);
    }

    private static void orderOfALine() {
        Due.part("term '\"l\" a colour, \",\", a light (a line comes)'");
        JoinedLight x = Scene.written("l380,999;l780,1;");
        due("play()", x.play(), 2);
        due("lineOf(0, 0)", x.lineOf(0, 0), 380);
        due("lineOf(0, 1)", x.lineOf(0, 1), 999);
        due("lineOf(1, 0)", x.lineOf(1, 0), 780);
        due("lineOf(1, 1)", x.lineOf(1, 1), 1);
        fault("l379,5;", 0, 2, INVALID);
        fault("l781,5;", 0, 2, INVALID);
        fault("l500,0;", 0, 2, INVALID);
        fault("l500,1000;", 0, 2, INVALID);
        fault("l500;", 0, 1, 4);
        fault("l500,5,5;", 0, 1, 6);
    }

    private static void orderOfAPrismTurnedUp() {
        Due.part("term '\"u\" a place, \",\", a glass, \",\", a strength (a prism that is turned up)'");
        thingAfter("u1,0,1;", new int[] {1, 0, 0, 1, 1});
        thingAfter("u999,1,99;", new int[] {999, 0, 1, 99, 1});
        fault("u0,0,1;", 0, 2, INVALID);
        fault("u1000,0,1;", 0, 2, INVALID);
        fault("u5,2,1;", 0, 2, INVALID);
        fault("u5,0,0;", 0, 2, INVALID);
        fault("u5,0,100;", 0, 2, INVALID);
        fault("u5,0;", 0, 1, 4);
        fault("u5,0,1,1;", 0, 1, 6);
    }

    private static void orderOfAPrismTurnedDown() {
        Due.part("term '\"d\" a place, \",\", a glass, \",\", a strength (a prism that is turned down)'");
        thingAfter("d1,0,1;", new int[] {1, 0, 0, 1, 2});
        thingAfter("d999,1,99;", new int[] {999, 0, 1, 99, 2});
        fault("d0,0,1;", 0, 2, INVALID);
        fault("d1000,0,1;", 0, 2, INVALID);
        fault("d5,2,1;", 0, 2, INVALID);
        fault("d5,0,0;", 0, 2, INVALID);
        fault("d5,0,100;", 0, 2, INVALID);
        fault("d5,0;", 0, 1, 4);
        fault("d5,0,1,1;", 0, 1, 6);
    }

    private static void orderOfASlit() {
        Due.part("term '\"s\" a place, \",\", an upper edge (a slit, whose lower edge is that less than 0)'");
        thingAfter("s1,0;", new int[] {1, 1, 0, 0});
        thingAfter("s5,1;", new int[] {5, 1, -1, 1});
        thingAfter("s999,9999;", new int[] {999, 1, -9999, 9999});
        fault("s0,5;", 0, 2, INVALID);
        fault("s1000,5;", 0, 2, INVALID);
        fault("s5,-1;", 0, 1, 3);
        fault("s5;", 0, 1, 2);
        fault("s5,5,5;", 0, 1, 4);
    }

    private static void orderOfTaking() {
        Due.part("term '\"x\" a place (the thing there is taken away)'");
        JoinedLight x = Scene.written("x1;x999;");
        x.slit(1, 0, 0);
        x.slit(999, 0, 0);
        due("play()", x.play(), 2);
        due("count(1)", x.count(1), 0);
        fault("x5;", 0, 2, INVALID);
        fault("x0;", 0, 2, INVALID);
        fault("x1000;", 0, 2, INVALID);
        fault("x;", 0, 1, 1);
        fault("x5,5;", 0, 1, 2);
    }

    private static void otherLetters() {
        Due.part("term 'There is a text .. orders', of other letters");
        for (char letter = 32; letter <= 126; letter++) {
            if ("ludsx".indexOf(letter) < 0) {
                fault(letter + "5,1,5;", 0, 1, 0);
            }
        }
        fault("L500,5;", 0, 1, 0);
        fault(" l500,5;", 0, 1, 0);
        fault("l500,5; ", 7, 1, 0);
        fault("l 500,5;", 0, 1, 1);
    }

    private static void digitsOfNumbers() {
        Due.part("term 'numbers of 1 to 4 digits'");
        fault("x;", 0, 1, 1);
        fault("s,5;", 0, 1, 1);
        fault("s5,;", 0, 1, 3);
        fault("u5,,5;", 0, 1, 3);
        fault("u5,1,;", 0, 1, 5);
        good("s1,1;", 1);
        good("s12,12;", 1);
        good("s123,123;", 1);
        good("s0123,1234;", 1);
        fault("s01234,1;", 0, 1, 5);
        fault("s1,12345;", 0, 1, 7);
        fault("x00005;", 0, 1, 5);
        fault("x9999;", 0, 2, INVALID);
        fault("x99999;", 0, 1, 5);
        fault("u5,00001,5;", 0, 1, 7);
        fault("u5,1,00005;", 0, 1, 9);
        fault("x/;", 0, 1, 1);
        fault("x:;", 0, 1, 1);
        fault("x+5;", 0, 1, 1);
        fault("x-5;", 0, 1, 1);
    }

    private static void zerosAhead() {
        Due.part("term '0 ahead allowed'");
        thingAfter("s0005,0007;", new int[] {5, 1, -7, 7});
        thingAfter("u0010,0001,0099;", new int[] {10, 0, 1, 99, 1});
        thingAfter("d010,000,01;", new int[] {10, 0, 0, 1, 2});
        JoinedLight x = Scene.written("l0500,007;x0010;");
        x.slit(10, 0, 0);
        due("play()", x.play(), 2);
        due("lineOf(0, 1)", x.lineOf(0, 1), 7);
        fault("x0000;", 0, 2, INVALID);
    }

    private static void positionOfTheFault() {
        Due.part("term 'the position, from 0, of the first character of the first order that is not possible'");
        fault("x5;", 0, 2, INVALID);
        fault("s5,5;x6;", 5, 2, INVALID);
        fault("s5,5;s6,6;q", 10, 1, 0);
        fault("s5,5;s6,6;u", 10, 1, 1);
        JoinedLight x = Scene.written("s1,0;s2,0;s3,0;s4,0;s5,0;s6,0;s7,0;s8,0;x1;x2;x3;x4;x5;x6;");
        due("count(12)", x.count(12), 58);
        due("fault(0)", x.fault(0), NOT_FOUND);
        x.type('x');
        faultIn(x, "an order at 58", 58, 1, 1);
        x.type('q');
        faultIn(x, "an order at 58 in a full text", 58, 1, 1);
    }

    private static void firstOfTheFaults() {
        Due.part("term 'the first order that is not possible', of several");
        fault("x5;x6;", 0, 2, INVALID);
        fault("x5;q", 0, 2, INVALID);
        fault("q;x5;", 0, 1, 0);
        fault("s5,5;x6;q", 5, 2, INVALID);
        fault("s5,5;q;x6;", 5, 1, 0);
    }

    private static void reasonOfForm() {
        Due.part("term 'its reason is 1 if it is not of this form, its \";\" included'");
        fault("x5", 0, 1, 2);
        fault("l379,5", 0, 1, 6);
        fault("u5,2,100", 0, 1, 8);
        fault("s5,5;s5,5", 5, 1, 4);
        fault("s5,5;x6", 5, 1, 2);
    }

    private static void reasonOfCall() {
        Due.part("term 'and otherwise 2'");
        fault("l379,5;", 0, 2, INVALID);
        fault("u5,2,100;", 0, 2, INVALID);
        fault("s5,5;s5,5;", 5, 2, NOT_POSSIBLE);
        fault("s5,5;x6;", 5, 2, INVALID);
    }

    private static void ordersAheadAreDone() {
        Due.part("term '2, when those ahead of it are done'");
        good("s5,5;x5;", 2);
        fault("x5;s5,5;", 0, 2, INVALID);
        good("s5,5;x5;u5,0,1;", 3);
        fault("s5,5;u5,0,1;", 5, 2, NOT_POSSIBLE);
        JoinedLight x = Scene.withLines(7);
        Scene.write(x, "l500,5;");
        due("the eighth line", x.fault(0), NOT_FOUND);
        Scene.write(x, "l500,5;");
        faultIn(x, "a ninth line", 7, 2, LIMIT);
        JoinedLight y = Scene.withThings(8);
        Scene.write(y, "x100;s100,5;");
        due("an eighth thing for another", y.fault(0), NOT_FOUND);
        Scene.write(y, "s101,5;");
        faultIn(y, "a ninth thing", 12, 2, LIMIT);
    }

    private static void whereItBreaksOff() {
        Due.part("term 'its cause is with the reason 1 at which character of the order, from 0, it breaks off'");
        fault("?", 0, 1, 0);
        fault("l?", 0, 1, 1);
        fault("l5?", 0, 1, 2);
        fault("l5,?", 0, 1, 3);
        fault("l5,5?", 0, 1, 4);
        fault("u1234?", 0, 1, 5);
        fault("u12345", 0, 1, 5);
        fault("u1234,1234?", 0, 1, 10);
        fault("u1234,1234;", 0, 1, 10);
        fault("u1234,1234,?", 0, 1, 11);
        fault("u1234,1234,1234?", 0, 1, 15);
        fault("u1234,1234,1234,", 0, 1, 15);
        fault("s5,5;x5?", 5, 1, 2);
        fault("s5,5;x5,", 5, 1, 2);
        fault("s5,5;x5;u5;", 8, 1, 2);
    }

    private static void whereTheTextEnds() {
        Due.part("term '(of one that the text ends too early it is its length)'");
        String order = "u12,1,34;";
        for (int length = 1; length < order.length(); length++) {
            fault(order.substring(0, length), 0, 1, length);
            fault("s5,5;" + order.substring(0, length), 5, 1, length);
        }
        good(order, 1);
        fault("u1234", 0, 1, 5);
        fault("l", 0, 1, 1);
        fault("l500,", 0, 1, 5);
        fault("s5", 0, 1, 2);
        fault("x1", 0, 1, 2);
    }

    private static void whereAFullTextEnds() {
        Due.part("term '(of one that the text ends too early it is its length)', of 60 characters");
        JoinedLight x = Scene.written("s1,0;x1;s1,0;x1;s1,0;x1;s1,0;x1;s1,0;x1;s1,0;x1;s1,0;u1234,1;");
        due("count(12)", x.count(12), 60);
        faultIn(x, "u1234,1 at the end", 53, 1, 7);
        JoinedLight y = Scene.written("s1,0;x1;s1,0;x1;s1,0;x1;s1,0;x1;s1,0;x1;s1,0;x1;s1,0;s2,0;x1;");
        due("count(12)", y.count(12), 60);
        faultIn(y, "x1 at the end", 58, 1, 2);
    }

    private static void codeOfTheCall() {
        Due.part("term 'and with the reason 2 the error code that the call returns for it'");
        fault("l781,5;", 0, 2, INVALID);
        fault("x1;", 0, 2, INVALID);
        fault("s1,0;s1,0;", 5, 2, NOT_POSSIBLE);
        fault("s1,0;d1,0,1;", 5, 2, NOT_POSSIBLE);
        fault("s1,0;u1,0,100;", 5, 2, INVALID);
        JoinedLight x = Scene.withThings(8);
        Scene.write(x, "u1,0,1;");
        faultIn(x, "a ninth thing", 0, 2, LIMIT);
        JoinedLight y = Scene.withThings(8);
        Scene.write(y, "u100,0,1;");
        faultIn(y, "a ninth thing where one is", 0, 2, NOT_POSSIBLE);
        JoinedLight z = Scene.withLines(8);
        Scene.write(z, "l500,5;");
        faultIn(z, "a ninth line", 0, 2, LIMIT);
        JoinedLight w = Scene.withLines(8);
        Scene.write(w, "l379,5;");
        faultIn(w, "a ninth line of no colour", 0, 2, INVALID);
    }

    private static void typeLeastAndGreatest() {
        Due.part("promise 21: 'character: 32 to 126', INVALID_ARGUMENT if it is out of range");
        JoinedLight x = new JoinedLight();
        int[] wrong = {31, 127, 0, -1, 128, 255, 'x' - 256, 'x' + 256, 'x' - 65536, 'x' + 65536, Scene.LEAST, Scene.GREATEST};
        for (int character : wrong) {
            due("type(" + character + ")", x.type(character), INVALID);
        }
        due("count(12)", x.count(12), 0);
        due("type(32)", x.type(32), 1);
        due("type(126)", x.type(126), 2);
        due("count(12)", x.count(12), 2);
    }

    private static void typeTellsTheLength() {
        Due.part("promise 21: 'Returns the length of the text'");
        JoinedLight x = new JoinedLight();
        for (int length = 1; length <= 60; length++) {
            due("type('x')", x.type('x'), length);
            due("count(12)", x.count(12), length);
        }
    }

    private static void typeOfAFullText() {
        Due.part("promise 21: 'LIMIT_REACHED if it has 60 characters'");
        JoinedLight x = Scene.written("s1,0;x1;s1,0;x1;s1,0;x1;s1,0;x1;s1,0;x1;s1,0;x1;s1,0;s02,0;");
        due("the 60th", x.type('x'), 60);
        due("the 61st", x.type('5'), LIMIT);
        due("the 61st that is no character", x.type(127), INVALID);
        due("count(12)", x.count(12), 60);
        due("fault(0)", x.fault(0), 59);
        due("fault(2)", x.fault(2), 1);
        due("clearText()", x.clearText(), 60);
        due("type('x')", x.type('x'), 1);
    }

    private static void clearTextTellsTheLength() {
        Due.part("promise 22: 'Empties the text. Returns the length it had'");
        JoinedLight x = new JoinedLight();
        due("of an empty text", x.clearText(), 0);
        x.type('x');
        due("of one character", x.clearText(), 1);
        due("of a text emptied before", x.clearText(), 0);
        due("fault(0)", x.fault(0), NOT_FOUND);
        Scene.write(x, "s5,5;");
        due("play()", x.play(), 1);
        due("clearText()", x.clearText(), 5);
        due("play() of none", x.play(), 0);
        due("count(1)", x.count(1), 1);
    }

    private static void clearTextOfAFullText() {
        Due.part("promise 22: 'Returns the length it had', of a full text");
        JoinedLight x = new JoinedLight();
        for (int i = 0; i < 61; i++) {
            x.type('q');
        }
        due("clearText()", x.clearText(), 60);
        due("count(12)", x.count(12), 0);
        Scene.write(x, "s5,5;");
        due("what was there is not seen behind a shorter text", x.play(), 1);
    }

    private static void clearTextLeavesNothingBehind() {
        Due.part("promise 22: 'Empties the text', of which nothing is seen behind a shorter one");
        String order = "s15,25;";
        for (int length = 1; length < order.length(); length++) {
            JoinedLight x = Scene.written(order);
            x.clearText();
            Scene.write(x, order.substring(0, length));
            faultIn(x, order.substring(0, length), 0, 1, length);
        }
    }

    private static void clearTextIsNoChange() {
        Due.part("promise 22: it is none of the changes");
        JoinedLight x = Scene.written("s5,5;");
        due("clearText()", x.clearText(), 5);
        due("count(11)", x.count(11), 0);
        due("undo()", x.undo(), NOT_POSSIBLE);
        due("count(12)", x.count(12), 0);
    }

    private static void faultWhat() {
        Due.part("promise 23: 'INVALID_ARGUMENT if what is out of range'");
        JoinedLight x = Scene.written("s5,5;x6;");
        int[] wrong = {-1, 3, Scene.LEAST, Scene.GREATEST};
        for (int what : wrong) {
            due("fault(" + what + ")", x.fault(what), INVALID);
            due("fault(" + what + ") of an empty text", new JoinedLight().fault(what), INVALID);
        }
        due("fault(0)", x.fault(0), 5);
        due("fault(1)", x.fault(1), 2);
        due("fault(2)", x.fault(2), INVALID);
    }

    private static void faultOfNoFault() {
        Due.part("promise 23: 'NOT_FOUND if the text has no fault (also if it is empty)'");
        JoinedLight empty = new JoinedLight();
        JoinedLight x = Scene.written("s5,5;x5;");
        for (int what = 0; what <= 2; what++) {
            due("fault(" + what + ") of an empty text", empty.fault(what), NOT_FOUND);
            due("fault(" + what + ") of a good text", x.fault(what), NOT_FOUND);
        }
        x.type('?');
        due("fault(0) of a fault", x.fault(0), 8);
        x.clearText();
        for (int what = 0; what <= 2; what++) {
            due("fault(" + what + ") of a text that was emptied", x.fault(what), NOT_FOUND);
        }
    }

    private static void faultChangesNothing() {
        Due.part("promise 23: it tells, and is none of the changes");
        JoinedLight x = Scene.written("l500,5;s5,5;x6;");
        x.line(400, 4);
        String seen = Scene.seen(x);
        for (int what = 0; what <= 2; what++) {
            x.fault(what);
        }
        Due.holds("fault() changes something", seen.equals(Scene.seen(x)));
        due("count(11)", x.count(11), 1);
        due("undo()", x.undo(), 0);
        due("count(0)", x.count(0), 0);
    }

    private static void playTellsHowMany() {
        Due.part("promise 24: 'Returns how many there are in it'");
        good("l500,5;", 1);
        good("l500,5;l500,5;", 2);
        good("l500,5;l500,5;s5,5;", 3);
        good("l500,5;l500,5;s5,5;x5;", 4);
        good("l500,5;l500,5;s5,5;x5;u5,0,1;", 5);
        good("l500,5;l500,5;s5,5;x5;u5,0,1;d6,0,1;", 6);
    }

    private static void playOfTheMostOrders() {
        Due.part("promise 24: 'Does all orders of the text', of as many as one can hold");
        JoinedLight x = new JoinedLight();
        for (int place = 1; place <= 8; place++) {
            x.slit(place, 0, 0);
        }
        Scene.write(x, "x1;x2;x3;x4;x5;x6;x7;x8;s1,0;x1;s1,0;x1;s1,0;x1;s1,0;x1;");
        due("play()", x.play(), 16);
        due("count(1)", x.count(1), 0);
        due("undo()", x.undo(), 3);
        due("count(1)", x.count(1), 8);
    }

    private static void playWithoutOrders() {
        Due.part("promise 24: 'They are one change, also if there are none'");
        JoinedLight x = new JoinedLight();
        for (int states = 1; states <= 5; states++) {
            due("play()", x.play(), 0);
            due("count(11)", x.count(11), Math.min(states, 4));
        }
        x.line(500, 5);
        due("play()", x.play(), 0);
        due("undo() of play", x.undo(), 3);
        due("count(0)", x.count(0), 1);
        due("undo() of line", x.undo(), 2);
        due("count(0)", x.count(0), 0);
    }

    private static void playIsOneChange() {
        Due.part("promise 24: 'They are one change'");
        JoinedLight x = Scene.written("l500,5;l600,6;s5,5;s6,6;u7,0,1;x5;");
        due("play()", x.play(), 6);
        due("count(11)", x.count(11), 1);
        due("undo()", x.undo(), 0);
        due("count(0)", x.count(0), 0);
        due("count(1)", x.count(1), 0);
    }

    private static void playLeavesTheText() {
        Due.part("promise 24: 'the text, which stays'");
        JoinedLight x = Scene.written("l500,5;");
        for (int lines = 1; lines <= 8; lines++) {
            due("play()", x.play(), 1);
            due("count(0)", x.count(0), lines);
            due("count(12)", x.count(12), 7);
        }
        due("play() of a ninth line", x.play(), NOT_POSSIBLE);
        due("count(12)", x.count(12), 7);
    }

    private static void playOfAFault() {
        Due.part("promise 24: 'NOT_POSSIBLE if it has a fault'");
        String[] texts = {"?", "l500,5;?", "l500,5;s5,5;x6;", "l500,5;s5,5;x5", "x5;l500,5;"};
        for (String text : texts) {
            JoinedLight x = Scene.written(text);
            x.line(400, 4);
            String seen = Scene.seen(x);
            due("play() of " + text, x.play(), NOT_POSSIBLE);
            Due.holds("play() of " + text + " changes something", seen.equals(Scene.seen(x)));
            due("undo()", x.undo(), 0);
            due("count(0)", x.count(0), 0);
        }
    }
}
