/** The boundary cases of what is answered: for each sentence of promises 9 to 19 a test of its own. */
public final class AnswerBoundaryTest {
    private static final int INVALID = Due.INVALID;
    private static final int NOT_POSSIBLE = Due.NOT_POSSIBLE;
    private static final int NOT_FOUND = Due.NOT_FOUND;
    private static final int LEAST = Scene.LEAST;
    private static final int GREATEST = Scene.GREATEST;
    private static final int UP = 1;
    private static final int DOWN = -1;

    public static void main(String[] args) {
        lineOfNoLine();
        lineOfWhat();
        lineOfALineThatComes();
        lineOfALineLostByASlit();
        lineOfALineBeyondTheHeight();
        lineOfTheFirstLoss();
        lineOfLossAtTheEnds();
        lineOfSlopeBehindTheLastThing();
        thingIndex();
        thingWhat();
        thingOrder();
        thingTurned();
        thingLinesThatComeToIt();
        thingLinesBeyondTheHeight();
        thingLightLostAtIt();
        thingLightLostAtAPrism();
        heightLine();
        heightPlace();
        heightAheadOfWhatIsThere();
        heightWhereTheLineDoesNotCome();
        heightBeyondTheHeight();
        lightCell();
        lightOfCellsWithoutLight();
        lightOfTheLeastAndGreatestCell();
        brightIndex();
        brightWhat();
        brightestFirst();
        brightOfSeveralTheLowest();
        brightNotSoMany();
        brightOfEightCells();
        bendingGlass();
        bendingColour();
        bestOfNothing();
        bestWhat();
        bestLeastAndGreatestPlace();
        bestInSteps();
        bestWhereNothingElseIs();
        bestAtItsOwnPlace();
        bestMostLines();
        bestLeastSpread();
        bestLeastPlace();
        bestIfNoneComes();
        bestOfAFullBench();
        bestIsNoChange();
        aloneLine();
        alonePlace();
        aloneWhereAThingIs();
        aloneBesideTheSameHeight();
        aloneBesideALostLine();
        aloneOfALostLine();
        aloneBeyondTheHeight();
        tunedOfNoPrism();
        tunedLeastAndGreatest();
        tunedMostLines();
        tunedLeastSpread();
        tunedLeastStrength();
        tunedIsNoChange();
        shareWithoutLines();
        shareOfNone();
        shareOfAll();
        shareIsRounded();
        countWhat();
        countOfLinesAndThings();
        countWithoutArrivals();
        countOfLostLight();
        countOfCells();
        countOfStatesAndCharacters();
        Due.end();
    }

    private static void due(String call, long got, long want) {
        Due.due(call, got, want);
    }

    /** The lines 0 and 1 of pair() meet a slit at 900 at 36 and 30; with 36 as its least edge the line 1 is lost. */
    private static JoinedLight pairWithSlit(int lower, int upper) {
        JoinedLight x = Scene.pair();
        x.slit(900, lower, upper);
        return x;
    }

    private static void lineOfNoLine() {
        Due.part("promise 9: 'line: number of the line'");
        JoinedLight x = Scene.withLines(8);
        int[] wrong = {-1, 8, LEAST, GREATEST};
        for (int line : wrong) {
            for (int what = 0; what <= 7; what++) {
                due("lineOf(" + line + ", " + what + ")", x.lineOf(line, what), INVALID);
            }
        }
        due("lineOf(0, 0)", x.lineOf(0, 0), 500);
        due("lineOf(7, 0)", x.lineOf(7, 0), 507);
        due("lineOf(0, 0) of no line", new JoinedLight().lineOf(0, 0), INVALID);
    }

    private static void lineOfWhat() {
        Due.part("promise 9: 'INVALID_ARGUMENT if an argument is out of range', of what");
        JoinedLight x = Scene.lamp(500);
        int[] wrong = {-1, 8, LEAST, GREATEST};
        for (int what : wrong) {
            due("lineOf(0, " + what + ")", x.lineOf(0, what), INVALID);
        }
        due("lineOf(0, 0)", x.lineOf(0, 0), 500);
        due("lineOf(0, 7)", x.lineOf(0, 7), NOT_FOUND);
    }

    private static void lineOfALineThatComes() {
        Due.part("promise 9: 'NOT_FOUND .. for 6 and 7 if it is not' lost");
        JoinedLight x = pairWithSlit(36, 36);
        int[] wanted = {380, 1, 1, 72, 366, 3, NOT_FOUND, NOT_FOUND};
        for (int what = 0; what <= 7; what++) {
            due("lineOf(0, " + what + ")", x.lineOf(0, what), wanted[what]);
        }
    }

    private static void lineOfALineLostByASlit() {
        Due.part("promise 9: 'NOT_FOUND for 3 to 5 if it is lost', '7: why it is lost: 1 by a slit'");
        JoinedLight x = pairWithSlit(36, 36);
        int[] wanted = {780, 2, 0, NOT_FOUND, NOT_FOUND, NOT_FOUND, 900, 1};
        for (int what = 0; what <= 7; what++) {
            due("lineOf(1, " + what + ")", x.lineOf(1, what), wanted[what]);
        }
    }

    private static void lineOfALineBeyondTheHeight() {
        Due.part("promise 9: 'NOT_FOUND for 3 to 5 if it is lost', '7: .. 2 beyond the height'");
        for (int turned = DOWN; turned <= UP; turned += 2) {
            JoinedLight x = Scene.steepRamp(turned);
            int[] wanted = {780, 7, 0, NOT_FOUND, NOT_FOUND, NOT_FOUND, 1000, 2};
            for (int what = 0; what <= 7; what++) {
                due("lineOf(0, " + what + ")", x.lineOf(0, what), wanted[what]);
            }
            x.prism(950, 0, 1, UP);
            due("lineOf(0, 6) at a prism", x.lineOf(0, 6), 950);
            due("lineOf(0, 7) at a prism", x.lineOf(0, 7), 2);
        }
    }

    private static void lineOfTheFirstLoss() {
        Due.part("promise 9: '6: the place where it is lost', of several slits that do not let it through");
        JoinedLight x = Scene.lamp(500);
        x.slit(300, 1, 2);
        due("of one", x.lineOf(0, 6), 300);
        x.slit(400, 1, 2);
        due("of the one behind it", x.lineOf(0, 6), 300);
        x.slit(200, 1, 2);
        due("of the one ahead of it", x.lineOf(0, 6), 200);
        x.slit(100, 0, 0);
        due("of one that lets it through", x.lineOf(0, 6), 200);
        JoinedLight y = Scene.steepRamp(UP);
        y.slit(930, 0, 0);
        y.slit(950, 0, 0);
        due("beyond the height ahead of two slits", y.lineOf(0, 6), 930);
        y.slit(910, 0, 0);
        due("by a slit ahead of them", y.lineOf(0, 6), 910);
        due("by a slit, why", y.lineOf(0, 7), 1);
    }

    private static void lineOfLossAtTheEnds() {
        Due.part("promise 9: '6: the place where it is lost', at the least and the greatest place");
        int[] places = {1, 999};
        for (int place : places) {
            JoinedLight x = Scene.lamp(500);
            x.slit(place, 1, 1);
            due("lineOf(0, 6)", x.lineOf(0, 6), place);
            due("lineOf(0, 7)", x.lineOf(0, 7), 1);
        }
        due("at the screen", Scene.steepRamp(DOWN).lineOf(0, 6), 1000);
    }

    private static void lineOfSlopeBehindTheLastThing() {
        Due.part("promise 9: '4: its slope there', behind a prism at 999");
        JoinedLight x = Scene.lamp(780);
        due("without things", x.lineOf(0, 4), 0);
        x.prism(999, 1, 99, UP);
        due("lineOf(0, 4)", x.lineOf(0, 4), 594);
        due("lineOf(0, 3)", x.lineOf(0, 3), 0);
        x.take(999);
        x.prism(999, 1, 99, DOWN);
        due("lineOf(0, 4)", x.lineOf(0, 4), -594);
        due("lineOf(0, 3)", x.lineOf(0, 3), -1);
        due("lineOf(0, 5)", x.lineOf(0, 5), -1);
    }

    private static void thingIndex() {
        Due.part("promise 10: 'INVALID_ARGUMENT if index is below 0', 'NOT_FOUND if there are not so many'");
        JoinedLight x = Scene.withThings(8);
        due("thing(-1, 0)", x.thing(-1, 0), INVALID);
        due("thing(LEAST, 0)", x.thing(LEAST, 0), INVALID);
        due("thing(0, 0)", x.thing(0, 0), 100);
        due("thing(7, 0)", x.thing(7, 0), 800);
        for (int what = 0; what <= 6; what++) {
            due("thing(8, " + what + ")", x.thing(8, what), NOT_FOUND);
            due("thing(GREATEST, " + what + ")", x.thing(GREATEST, what), NOT_FOUND);
            due("thing(0, " + what + ") of an empty bench", new JoinedLight().thing(0, what), NOT_FOUND);
        }
        x.take(800);
        due("thing(7, 0) of 7 things", x.thing(7, 0), NOT_FOUND);
    }

    private static void thingWhat() {
        Due.part("promise 10: 'INVALID_ARGUMENT if .. what out of range'");
        JoinedLight x = Scene.withThings(2);
        int[] wrong = {-1, 7, LEAST, GREATEST};
        for (int what : wrong) {
            due("thing(0, " + what + ")", x.thing(0, what), INVALID);
            due("thing(1, " + what + ")", x.thing(1, what), INVALID);
        }
        int[] prism = {100, 0, 0, 11, 1, 0, 0};
        int[] slit = {200, 1, -902, 902, NOT_FOUND, 0, 0};
        for (int what = 0; what <= 6; what++) {
            due("thing(0, " + what + ")", x.thing(0, what), prism[what]);
            due("thing(1, " + what + ")", x.thing(1, what), slit[what]);
        }
    }

    private static void thingOrder() {
        Due.part("promise 10: 'index: 0 for the one with the least place, and so on'");
        JoinedLight x = new JoinedLight();
        int[] places = {500, 1, 999, 499, 501, 2, 998, 3};
        for (int place : places) {
            x.slit(place, 0, place);
        }
        int[] wanted = {1, 2, 3, 499, 500, 501, 998, 999};
        for (int index = 0; index < 8; index++) {
            due("thing(" + index + ", 0)", x.thing(index, 0), wanted[index]);
            due("thing(" + index + ", 3)", x.thing(index, 3), wanted[index]);
        }
    }

    private static void thingTurned() {
        Due.part("promise 10: '4: how it is turned (1 or 2, where 2 is -1)', 'NOT_FOUND .. for 4 of a slit'");
        JoinedLight x = new JoinedLight();
        x.prism(1, 0, 1, UP);
        x.prism(2, 0, 1, DOWN);
        x.slit(3, 0, 0);
        due("turned up", x.thing(0, 4), 1);
        due("turned down", x.thing(1, 4), 2);
        due("a slit", x.thing(2, 4), NOT_FOUND);
        x.move(1, 4);
        x.move(3, 1);
        due("a slit where a prism was the first", x.thing(0, 4), NOT_FOUND);
        due("turned up, the last", x.thing(2, 4), 1);
    }

    private static void thingLinesThatComeToIt() {
        Due.part("promise 10: '5: the lines that come to it', lost there or ahead");
        JoinedLight x = pairWithSlit(36, 36);
        x.slit(950, 0, 0);
        x.prism(999, 0, 1, UP);
        due("the prism at 800", x.thing(0, 5), 3);
        due("the slit at 900, one is lost there", x.thing(1, 5), 3);
        due("the slit at 950, the other one is lost there", x.thing(2, 5), 1);
        due("the prism at 999, none is left", x.thing(3, 5), 0);
        due("without lines", Scene.withThings(1).thing(0, 5), 0);
    }

    private static void thingLinesBeyondTheHeight() {
        Due.part("promise 10: '5: .. and are not beyond the height'");
        int[][] places = {{920, 1}, {921, 0}, {999, 0}};
        for (int[] place : places) {
            JoinedLight slit = Scene.steepRamp(UP);
            slit.slit(place[0], -9999, 9999);
            due("a slit at " + place[0], slit.thing(2, 5), place[1]);
            JoinedLight prism = Scene.steepRamp(UP);
            prism.prism(place[0], 0, 1, DOWN);
            due("a prism at " + place[0], prism.thing(2, 5), place[1]);
        }
        JoinedLight low = Scene.steepRamp(DOWN);
        low.slit(918, -9999, 9999);
        low.slit(919, -9999, 9999);
        due("at -999", low.thing(2, 5), 1);
        due("at -1001", low.thing(3, 5), 0);
    }

    private static void thingLightLostAtIt() {
        Due.part("promise 10: '6: the light that is lost at it (by the slit, ..)'");
        JoinedLight x = pairWithSlit(36, 36);
        x.slit(950, 0, 0);
        x.slit(999, 0, 0);
        due("the prism at 800", x.thing(0, 6), 0);
        due("the slit at 900", x.thing(1, 6), 2);
        due("the slit at 950", x.thing(2, 6), 1);
        due("the slit at 999, to which none comes", x.thing(3, 6), 0);
        due("both at one", pairWithSlit(37, 37).thing(1, 6), 3);
        due("none", pairWithSlit(30, 36).thing(1, 6), 0);
        due("without lines", Scene.withThings(2).thing(1, 6), 0);
    }

    private static void thingLightLostAtAPrism() {
        Due.part("promise 10: '6: .. (.. or beyond the height as it comes there)'");
        JoinedLight x = Scene.steepRamp(UP);
        due("lost at the screen, not at the last thing", x.thing(1, 6), 0);
        x.prism(921, 0, 1, UP);
        due("a prism at 1000", x.thing(2, 6), 7);
        x.move(921, 920);
        due("a prism at 999", x.thing(2, 6), 0);
        x.slit(930, -9999, 9999);
        due("a slit behind it that lets all through", x.thing(3, 6), 7);
        x.slit(940, 0, 0);
        due("a slit behind that", x.thing(4, 6), 0);
    }

    private static void heightLine() {
        Due.part("promise 11: 'line: number of the line'");
        JoinedLight x = Scene.withLines(8);
        int[] wrong = {-1, 8, LEAST, GREATEST};
        for (int line : wrong) {
            due("height(" + line + ", 0)", x.height(line, 0), INVALID);
            due("height(" + line + ", 1000)", x.height(line, 1000), INVALID);
        }
        due("height(7, 1000)", x.height(7, 1000), 0);
        due("height(0, 0) of no line", new JoinedLight().height(0, 0), INVALID);
    }

    private static void heightPlace() {
        Due.part("promise 11: 'place: 0 to 1000'");
        JoinedLight x = Scene.ramp(UP);
        int[] wrong = {-1, 1001, LEAST, GREATEST};
        for (int place : wrong) {
            due("height(0, " + place + ")", x.height(0, place), INVALID);
        }
        due("height(0, 0)", x.height(0, 0), 0);
        due("height(0, 1)", x.height(0, 1), 0);
        due("height(0, 999)", x.height(0, 999), 997);
        due("height(0, 1000)", x.height(0, 1000), 998);
        due("height(0, 0) of a line that is lost", Scene.steepRamp(UP).height(0, 0), 0);
    }

    private static void heightAheadOfWhatIsThere() {
        Due.part("promise 11: 'the height of a line at a place, ahead of what is there'");
        JoinedLight x = pairWithSlit(36, 36);
        due("at a slit that does not let it through", x.height(1, 900), 30);
        due("behind it", x.height(1, 901), NOT_FOUND);
        due("at a slit that lets it through", x.height(0, 900), 36);
        due("behind it", x.height(0, 901), 36);
        JoinedLight y = Scene.lamp(780);
        y.prism(100, 0, 99, DOWN);
        due("at a prism", y.height(0, 100), 0);
        due("behind it", y.height(0, 101), -1);
    }

    private static void heightWhereTheLineDoesNotCome() {
        Due.part("promise 11: 'NOT_FOUND if the line does not come there'");
        JoinedLight x = Scene.lamp(500);
        x.slit(1, 1, 1);
        due("height(0, 0)", x.height(0, 0), 0);
        due("height(0, 1)", x.height(0, 1), 0);
        due("height(0, 2)", x.height(0, 2), NOT_FOUND);
        due("height(0, 1000)", x.height(0, 1000), NOT_FOUND);
        x.move(1, 999);
        due("height(0, 999)", x.height(0, 999), 0);
        due("height(0, 1000)", x.height(0, 1000), NOT_FOUND);
    }

    private static void heightBeyondTheHeight() {
        Due.part("promise 11: 'NOT_FOUND if the line .. is beyond the height'");
        JoinedLight up = Scene.steepRamp(UP);
        due("999", up.height(0, 920), 999);
        due("1000", up.height(0, 921), NOT_FOUND);
        due("at the screen", up.height(0, 1000), NOT_FOUND);
        JoinedLight down = Scene.steepRamp(DOWN);
        due("-999", down.height(0, 918), -999);
        due("-1000", down.height(0, 919), NOT_FOUND);
        up.prism(930, 1, 99, DOWN);
        due("at a thing", up.height(0, 930), NOT_FOUND);
        due("behind a thing where it was lost", up.height(0, 931), NOT_FOUND);
        due("ahead of it", up.height(0, 920), 999);
    }

    private static void lightCell() {
        Due.part("promise 12: 'cell: -9999 to 9999', 'INVALID_ARGUMENT if cell is out of range'");
        JoinedLight x = Scene.lamp(500);
        int[] wrong = {-10000, 10000, LEAST, GREATEST};
        for (int cell : wrong) {
            due("light(" + cell + ")", x.light(cell), INVALID);
        }
        due("light(-9999)", x.light(-9999), 0);
        due("light(9999)", x.light(9999), 0);
        due("light(0)", x.light(0), 1);
    }

    private static void lightOfCellsWithoutLight() {
        Due.part("promise 12: 'the light of a cell', without light");
        JoinedLight x = Scene.onScreenAt(-21);
        due("light(-3)", x.light(-3), 0);
        due("light(-2)", x.light(-2), 7);
        due("light(-1)", x.light(-1), 0);
        due("light(0)", x.light(0), 0);
        due("light(0) without lines", new JoinedLight().light(0), 0);
        due("light(0) of a line that is lost", Scene.steepRamp(UP).light(0), 0);
        due("light(50) of a line beyond the height", Scene.steepRamp(UP).light(50), 0);
    }

    private static void lightOfTheLeastAndGreatestCell() {
        Due.part("promise 12: 'the light of a cell', of the least and the greatest one that can have light");
        JoinedLight low = Scene.ramp(DOWN);
        low.set(0, 1);
        due("light(-999)", low.light(-999), 7);
        due("light(-1000)", low.light(-1000), 0);
        JoinedLight high = Scene.lamp(780);
        high.prism(1, 0, 96, UP);
        high.prism(2, 1, 87, UP);
        high.set(0, 1);
        due("1002 * 998 / 1000", high.lineOf(0, 3), 999);
        due("light(999)", high.light(999), 1);
        due("light(1000)", high.light(1000), 0);
    }

    private static void brightIndex() {
        Due.part("promise 13: 'index: 0 for the first one', 'INVALID_ARGUMENT if index is below 0'");
        JoinedLight x = Scene.lamp(500);
        for (int what = 0; what <= 2; what++) {
            due("bright(-1, " + what + ")", x.bright(-1, what), INVALID);
            due("bright(LEAST, " + what + ")", x.bright(LEAST, what), INVALID);
        }
        due("bright(0, 0)", x.bright(0, 0), 0);
        due("bright(0, 1)", x.bright(0, 1), 1);
        due("bright(0, 2)", x.bright(0, 2), 1);
    }

    private static void brightWhat() {
        Due.part("promise 13: 'INVALID_ARGUMENT if .. what out of range'");
        JoinedLight x = Scene.lamp(500);
        int[] wrong = {-1, 3, LEAST, GREATEST};
        for (int what : wrong) {
            due("bright(0, " + what + ")", x.bright(0, what), INVALID);
            due("bright(5, " + what + ")", x.bright(5, what), INVALID);
        }
    }

    private static void brightestFirst() {
        Due.part("promise 13: 'the brightest one first'");
        JoinedLight x = Scene.pair();
        x.set(0, 1);
        due("73 of light 1 is behind 60 of light 2", x.bright(0, 0), 60);
        due("bright(1, 0)", x.bright(1, 0), 73);
        x.dim(0, 3);
        due("73 of light 3 is ahead of 60 of light 2", x.bright(0, 0), 73);
        due("bright(0, 1)", x.bright(0, 1), 3);
        due("bright(0, 2)", x.bright(0, 2), 1);
        due("bright(1, 0)", x.bright(1, 0), 60);
        due("bright(1, 1)", x.bright(1, 1), 2);
        due("bright(1, 2)", x.bright(1, 2), 2);
    }

    private static void brightOfSeveralTheLowest() {
        Due.part("promise 13: 'of several the lowest one'");
        JoinedLight x = Scene.pair();
        x.set(0, 1);
        x.dim(0, 2);
        due("60 and 73 of light 2", x.bright(0, 0), 60);
        due("bright(1, 0)", x.bright(1, 0), 73);
        JoinedLight y = Scene.lamp(380, 780);
        y.prism(800, 1, 50, DOWN);
        y.set(0, 1);
        y.dim(1, 1);
        due("-74 and -60 of light 1", y.bright(0, 0), -74);
        due("bright(1, 0)", y.bright(1, 0), -60);
        JoinedLight z = Scene.lamp(780, 780, 380);
        z.prism(800, 1, 50, UP);
        z.set(0, 1);
        due("60 of light 1 + 2 and 73 of light 3", z.bright(0, 0), 60);
        due("bright(1, 0)", z.bright(1, 0), 73);
    }

    private static void brightNotSoMany() {
        Due.part("promise 13: 'NOT_FOUND if there are not so many'");
        JoinedLight x = Scene.pair();
        due("bright(1, 0) of one cell", x.bright(1, 0), NOT_FOUND);
        x.set(0, 1);
        due("bright(1, 0) of two cells", x.bright(1, 0), 73);
        due("bright(2, 0) of two cells", x.bright(2, 0), NOT_FOUND);
        due("bright(GREATEST, 2)", x.bright(GREATEST, 2), NOT_FOUND);
        due("bright(0, 0) without lines", new JoinedLight().bright(0, 0), NOT_FOUND);
        due("bright(0, 1) of a line that is lost", Scene.steepRamp(UP).bright(0, 1), NOT_FOUND);
    }

    /** The eight lines come to the screen at 717, 698, 681, 662, 643, 624, 605 and 588. */
    private static JoinedLight eightHeights() {
        JoinedLight x = Scene.lamp(380, 437, 494, 551, 608, 665, 722, 780);
        x.prism(10, 1, 99, UP);
        x.set(0, 1);
        return x;
    }

    private static void brightOfEightCells() {
        Due.part("promise 13: 'the cells of the screen with light', as many as there can be");
        JoinedLight x = eightHeights();
        int[] cells = {588, 605, 624, 643, 662, 681, 698, 717};
        for (int index = 0; index < 8; index++) {
            due("bright(" + index + ", 0)", x.bright(index, 0), cells[index]);
            due("bright(" + index + ", 1)", x.bright(index, 1), 8 - index);
            due("bright(" + index + ", 2)", x.bright(index, 2), 128 >> index);
        }
        due("bright(8, 0)", x.bright(8, 0), NOT_FOUND);
        due("count(10)", x.count(10), 8);
    }

    private static void bendingGlass() {
        Due.part("promise 14: 'glass: 0 or 1'");
        JoinedLight x = new JoinedLight();
        int[] wrong = {-1, 2, LEAST, GREATEST};
        for (int glass : wrong) {
            due("bending(" + glass + ", 500)", x.bending(glass, 500), INVALID);
        }
        due("bending(0, 500)", x.bending(0, 500), 535);
        due("bending(1, 500)", x.bending(1, 500), 693);
    }

    private static void bendingColour() {
        Due.part("promise 14: 'colour: 380 to 780'");
        JoinedLight x = new JoinedLight();
        int[] wrong = {379, 781, 0, -380, LEAST, GREATEST};
        for (int colour : wrong) {
            due("bending(0, " + colour + ")", x.bending(0, colour), INVALID);
            due("bending(1, " + colour + ")", x.bending(1, colour), INVALID);
        }
        due("bending(0, 380)", x.bending(0, 380), 550);
        due("bending(0, 780)", x.bending(0, 780), 500);
        due("bending(1, 380)", x.bending(1, 380), 733);
        due("bending(1, 780)", x.bending(1, 780), 600);
    }

    private static void bestOfNothing() {
        Due.part("promise 15: 'INVALID_ARGUMENT if there is nothing at the place'");
        JoinedLight x = Scene.withThings(1);
        int[] wrong = {0, 1000, -1, 10, 99, 101, LEAST, GREATEST};
        for (int place : wrong) {
            due("best(" + place + ", 0)", x.best(place, 0), INVALID);
        }
        due("best(100, 0)", x.best(100, 0), 10);
        due("best(10, 0) of an empty bench", new JoinedLight().best(10, 0), INVALID);
    }

    private static void bestWhat() {
        Due.part("promise 15: 'INVALID_ARGUMENT if .. what is out of range'");
        JoinedLight x = Scene.withThings(1);
        int[] wrong = {-1, 3, LEAST, GREATEST};
        for (int what : wrong) {
            due("best(100, " + what + ")", x.best(100, what), INVALID);
        }
        due("best(100, 1)", x.best(100, 1), 0);
        due("best(100, 2)", x.best(100, 2), 0);
    }

    private static void bestIs(String name, JoinedLight x, int place, int to, int lines, int spread) {
        due("best(" + place + ", 0), " + name, x.best(place, 0), to);
        due("best(" + place + ", 1), " + name, x.best(place, 1), lines);
        due("best(" + place + ", 2), " + name, x.best(place, 2), spread);
    }

    /** The height of the ramp is its place less 2: the slit lets it through at one place alone. */
    private static JoinedLight rampWithSlit(int passes) {
        JoinedLight x = Scene.ramp(UP);
        x.slit(15, passes - 2, passes - 2);
        return x;
    }

    private static void bestLeastAndGreatestPlace() {
        Due.part("promise 15: 'of 10 .. to 990'");
        bestIs("through at 10 alone", rampWithSlit(10), 15, 10, 1, 0);
        bestIs("through at 20 alone", rampWithSlit(20), 15, 20, 1, 0);
        bestIs("through at 980 alone", rampWithSlit(980), 15, 980, 1, 0);
        bestIs("through at 990 alone", rampWithSlit(990), 15, 990, 1, 0);
        bestIs("through at 1000 alone", rampWithSlit(1000), 15, 10, 0, 0);
        JoinedLight late = Scene.lamp(380, 780);
        late.prism(999, 1, 99, UP);
        due("the spread at 999", late.count(3), 0);
        bestIs("7 and 5 behind 990", late, 999, 990, 2, 2);
        JoinedLight early = Scene.lamp(500);
        early.prism(5, 1, 99, UP);
        early.slit(6, 0, 0);
        due("the slit at 6 lets it through", early.count(2), 1);
        bestIs("a slit that is good ahead of 10 alone", early, 6, 10, 0, 0);
    }

    private static void bestInSteps() {
        Due.part("promise 15: '10, 20 and so on'");
        bestIs("through at 15 alone, where it is", rampWithSlit(15), 15, 10, 0, 0);
        bestIs("through at 11 alone", rampWithSlit(11), 15, 10, 0, 0);
        bestIs("through at 989 alone", rampWithSlit(989), 15, 10, 0, 0);
        bestIs("through at 500 alone", rampWithSlit(500), 15, 500, 1, 0);
    }

    private static void bestWhereNothingElseIs() {
        Due.part("promise 15: 'at which nothing else is'");
        JoinedLight x = rampWithSlit(500);
        x.slit(500, -9999, 9999);
        bestIs("through at 500 alone, where another is", x, 15, 10, 0, 0);
        x.move(500, 10);
        bestIs("through at 500 alone, the other one at 10", x, 15, 500, 1, 0);
        x.move(10, 500);
        bestIs("through at 500 alone, where another is again", x, 15, 10, 0, 0);
        JoinedLight y = new JoinedLight();
        for (int place = 10; place <= 70; place += 10) {
            y.slit(place, 0, 0);
        }
        y.slit(75, 0, 0);
        due("the least one that is free", y.best(75, 0), 80);
    }

    private static void bestAtItsOwnPlace() {
        Due.part("promise 15: 'at which nothing else is', its own place");
        JoinedLight x = rampWithSlit(500);
        x.move(15, 500);
        bestIs("through at 500, where it is", x, 500, 500, 1, 0);
        JoinedLight y = new JoinedLight();
        y.slit(10, 0, 0);
        due("10 is its own place", y.best(10, 0), 10);
        JoinedLight z = Scene.lamp(380, 780);
        z.prism(5, 1, 99, UP);
        z.prism(10, 1, 99, DOWN);
        bestIs("3 and 2 at 10, where it is", z, 10, 10, 2, 1);
    }

    private static void bestMostLines() {
        Due.part("promise 15: 'by which the most lines come to the screen'");
        JoinedLight x = Scene.pair();
        x.slit(500, 30, 36);
        due("none comes where it is", x.count(2), 0);
        bestIs("one through at 890, two at 900, one at 910", x, 500, 900, 2, 12);
        JoinedLight y = Scene.rainbow();
        y.slit(600, 0, 0);
        bestIs("all three ahead of the prism", y, 600, 10, 3, 45);
    }

    private static void bestLeastSpread() {
        Due.part("promise 15: 'of several that with the least spread'");
        JoinedLight x = Scene.lamp(380, 780);
        x.prism(500, 1, 50, UP);
        due("the spread where it is", x.count(3), 183 - 150);
        bestIs("3 and 3 behind 990", x, 500, 990, 2, 0);
        JoinedLight y = Scene.lamp(380, 780);
        y.prism(5, 1, 99, UP);
        y.prism(500, 1, 99, DOWN);
        bestIs("3 and 2 at 10", y, 500, 10, 2, 1);
    }

    private static void bestLeastPlace() {
        Due.part("promise 15: 'of these the least place'");
        JoinedLight one = Scene.lamp(500);
        one.prism(500, 1, 50, UP);
        bestIs("a line alone has no spread", one, 500, 10, 1, 0);
        JoinedLight x = Scene.pair();
        x.slit(500, -9999, 9999);
        x.slit(801, -9999, 9999);
        bestIs("820, 850 and five more", x, 500, 820, 2, 12);
        x.move(500, 820);
        due("the spread at 820", x.count(3), 12);
        x.move(820, 810);
        due("the spread at 810", x.count(3), 13);
        x.move(810, 830);
        due("the spread at 830", x.count(3), 13);
    }

    private static void bestIfNoneComes() {
        Due.part("promise 15: '2: the spread, 0 if none comes'");
        JoinedLight x = Scene.lamp(380, 780);
        x.slit(500, 1, 1);
        bestIs("none comes", x, 500, 10, 0, 0);
        JoinedLight y = Scene.steepRamp(UP);
        y.slit(995, 0, 0);
        bestIs("the slit at 10 to 990 makes no line come", y, 995, 10, 0, 0);
        bestIs("without lines", Scene.withThings(1), 100, 10, 0, 0);
    }

    private static void bestOfAFullBench() {
        Due.part("promise 15: 'the thing at a place', with 8 things");
        JoinedLight x = rampWithSlit(990);
        for (int place = 980; place >= 940; place -= 10) {
            x.slit(place, -9999, 9999);
        }
        due("count(1)", x.count(1), 8);
        bestIs("through at 990 alone", x, 15, 990, 1, 0);
        due("count(1)", x.count(1), 8);
    }

    private static void bestIsNoChange() {
        Due.part("promise 15: it finds, and moves nothing");
        JoinedLight x = rampWithSlit(500);
        String seen = Scene.seen(x);
        bestIs("through at 500 alone", x, 15, 500, 1, 0);
        Due.holds("best() changes something", seen.equals(Scene.seen(x)));
        due("count(2)", x.count(2), 0);
    }

    private static void aloneLine() {
        Due.part("promise 16: 'line: number of the line'");
        JoinedLight x = Scene.lamp(500);
        int[] wrong = {-1, 1, 8, LEAST, GREATEST};
        for (int line : wrong) {
            due("alone(" + line + ", 5)", x.alone(line, 5), INVALID);
        }
        due("alone(0, 5)", x.alone(0, 5), 0);
        due("alone(0, 5) without lines", new JoinedLight().alone(0, 5), INVALID);
        JoinedLight y = eightHeights();
        due("alone(7, 999)", y.alone(7, 999), 587);
        due("alone(8, 999)", y.alone(8, 999), INVALID);
    }

    private static void alonePlace() {
        Due.part("promise 16: 'place: 1 to 999'");
        JoinedLight x = Scene.ramp(UP);
        int[] wrong = {0, 1000, -1, LEAST, GREATEST};
        for (int place : wrong) {
            due("alone(0, " + place + ")", x.alone(0, place), INVALID);
        }
        due("alone(0, 999)", x.alone(0, 999), 997);
        due("alone(0, 1) where a thing is", x.alone(0, 1), NOT_POSSIBLE);
        due("alone(0, 1)", Scene.lamp(500).alone(0, 1), 0);
    }

    private static void aloneWhereAThingIs() {
        Due.part("promise 16: 'where nothing is', 'NOT_POSSIBLE if there is a thing at the place'");
        JoinedLight x = pairWithSlit(0, 99);
        due("where a prism is", x.alone(0, 800), NOT_POSSIBLE);
        due("where a slit is", x.alone(0, 900), NOT_POSSIBLE);
        due("ahead of it", x.alone(0, 899), 36);
        due("behind it", x.alone(0, 901), 36);
        x.take(900);
        due("where one was", x.alone(0, 900), 36);
    }

    private static void aloneBesideTheSameHeight() {
        Due.part("promise 16: 'NOT_POSSIBLE if .. another line has the same height there'");
        JoinedLight x = Scene.pair();
        due("0 and 0 at 802", x.alone(0, 802), NOT_POSSIBLE);
        due("0 and 0 at 802", x.alone(1, 802), NOT_POSSIBLE);
        due("1 and 0 at 803", x.alone(0, 803), 1);
        due("1 and 0 at 803", x.alone(1, 803), 0);
        x.line(380, 5);
        due("the third one is as the first", x.alone(0, 803), NOT_POSSIBLE);
        due("the third one is as the first", x.alone(2, 803), NOT_POSSIBLE);
        due("the second is alone", x.alone(1, 803), 0);
        due("a line is not another to itself", Scene.lamp(500).alone(0, 802), 0);
    }

    /** Behind three prisms the two lines, at 65 and 53 first, meet at 285, both at the height 0. */
    private static void aloneBesideALostLine() {
        Due.part("promise 16: 'if no other line would come through it', of one that is lost ahead");
        JoinedLight x = Scene.lamp(380, 780);
        x.prism(10, 1, 99, UP);
        x.prism(100, 1, 99, DOWN);
        x.prism(110, 1, 50, DOWN);
        due("both at 0", x.alone(1, 285), NOT_POSSIBLE);
        x.slit(105, 50, 60);
        due("the other one is lost at 105", x.alone(1, 285), 0);
        due("the lost one", x.alone(0, 285), NOT_FOUND);
        due("ahead of the slit", x.alone(0, 104), 65);
    }

    private static void aloneOfALostLine() {
        Due.part("promise 16: 'NOT_FOUND as for height()', of a line that does not come there");
        JoinedLight x = pairWithSlit(36, 36);
        due("ahead of the slit", x.alone(1, 899), 29);
        due("behind the slit", x.alone(1, 901), NOT_FOUND);
        due("at the last place", x.alone(1, 999), NOT_FOUND);
        due("the one that comes", x.alone(0, 901), 36);
        JoinedLight both = pairWithSlit(0, 0);
        due("both are lost", both.alone(0, 901), NOT_FOUND);
        due("both are lost", both.alone(1, 901), NOT_FOUND);
    }

    private static void aloneBeyondTheHeight() {
        Due.part("promise 16: 'NOT_FOUND as for height()', of a line beyond the height");
        JoinedLight up = Scene.steepRamp(UP);
        due("999", up.alone(0, 920), 999);
        due("1000", up.alone(0, 921), NOT_FOUND);
        JoinedLight down = Scene.steepRamp(DOWN);
        due("-999", down.alone(0, 918), -999);
        due("-1000", down.alone(0, 919), NOT_FOUND);
    }

    private static void tunedOfNoPrism() {
        Due.part("promise 17: 'INVALID_ARGUMENT if there is no prism at the place'");
        JoinedLight x = Scene.withThings(2);
        int[] wrong = {0, 1000, -1, 99, 101, 200, LEAST, GREATEST};
        for (int place : wrong) {
            due("tuned(" + place + ")", x.tuned(place), INVALID);
        }
        due("tuned(100)", x.tuned(100), 1);
        due("tuned(10) of an empty bench", new JoinedLight().tuned(10), INVALID);
    }

    /** Crown at 800 lifts the line by 5 * strength * 100 / 1000 up to 900. */
    private static JoinedLight lift(int lower, int upper) {
        JoinedLight x = Scene.lamp(780);
        x.prism(800, 0, 50, UP);
        x.slit(900, lower, upper);
        return x;
    }

    private static void tunedLeastAndGreatest() {
        Due.part("promise 17: 'which strength of the prism at a place, 1 to 99'");
        due("through by 49 alone", lift(49, 99).tuned(800), 98);
        JoinedLight last = Scene.lamp(780);
        last.prism(800, 1, 50, UP);
        last.slit(900, 59, 59);
        due("by 99, at 59", last.tuned(800), 99);
        JoinedLight none = Scene.lamp(780);
        none.prism(800, 1, 50, UP);
        none.slit(900, 60, 60);
        due("by 100 alone, at 60", none.tuned(800), 1);
        due("by 0 and 1, at 0", lift(-99, 0).tuned(800), 1);
        due("by 0 alone, at -1", lift(-99, -1).tuned(800), 1);
    }

    private static void tunedMostLines() {
        Due.part("promise 17: 'of those by which the most lines come to the screen'");
        JoinedLight x = pairWithSlit(30, 99);
        x.dim(0, 999);
        due("72 and 60 by 50, the first by which both come", x.tuned(800), 50);
        due("one line alone has no spread", pairWithSlit(44, 45).tuned(800), 61);
    }

    private static void tunedLeastSpread() {
        Due.part("promise 17: 'which strength .. would make the spread least'");
        JoinedLight x = Scene.lamp(380, 780);
        x.prism(100, 1, 40, UP);
        x.prism(101, 1, 7, DOWN);
        due("as strong as the one ahead of it", x.tuned(101), 40);
        due("the one ahead of it", x.tuned(100), 7);
    }

    private static void tunedLeastStrength() {
        Due.part("promise 17: 'of several the least'");
        due("10 by 20 and 21", lift(10, 10).tuned(800), 20);
        due("10 and more by 20 to 99", lift(10, 99).tuned(800), 20);
        due("by each of them", lift(-99, 99).tuned(800), 1);
        due("by none of them", lift(999, 999).tuned(800), 1);
        due("without lines", Scene.withThings(1).tuned(100), 1);
    }

    private static void tunedIsNoChange() {
        Due.part("promise 17: it tells, and sets nothing");
        JoinedLight x = lift(10, 10);
        String seen = Scene.seen(x);
        due("tuned(800)", x.tuned(800), 20);
        Due.holds("tuned() changes something", seen.equals(Scene.seen(x)));
        due("thing(0, 3)", x.thing(0, 3), 50);
    }

    private static void shareWithoutLines() {
        Due.part("promise 18: 'NOT_FOUND if there are no lines'");
        due("of a new object", new JoinedLight().share(), NOT_FOUND);
        JoinedLight x = Scene.lamp(500);
        due("of a line", x.share(), 0x3f800000);
        x.undo();
        due("of a line that was taken back", x.share(), NOT_FOUND);
        due("of things alone", Scene.withThings(2).share(), NOT_FOUND);
    }

    private static void shareOfNone() {
        Due.part("promise 18: 'the light there', of lines that are all lost");
        due("by a slit", pairWithSlit(0, 0).share(), 0);
        due("beyond the height", Scene.steepRamp(DOWN).share(), 0);
    }

    private static void shareOfAll() {
        Due.part("promise 18: 'the light of all lines'");
        JoinedLight x = new JoinedLight();
        for (int k = 0; k < 8; k++) {
            x.line(780, 999);
            due("all", x.share(), 0x3f800000);
        }
        x.dim(0, 1);
        due("all", x.share(), 0x3f800000);
    }

    private static void shareIsRounded() {
        Due.part("promise 18: 'as a float', of shares that no float is");
        due("1 of 3", pairWithSlit(36, 36).share(), 0x3eaaaaab);
        due("2 of 3", pairWithSlit(30, 30).share(), 0x3f2aaaab);
        JoinedLight x = pairWithSlit(36, 36);
        x.dim(1, 999);
        due("1 of 1000", x.share(), 0x3a83126f);
        x.dim(0, 999);
        due("999 of 1998", x.share(), 0x3f000000);
        x.dim(1, 1);
        due("999 of 1000", x.share(), 0x3f7fbe77);
        x.dim(0, 9);
        due("9 of 10", x.share(), 0x3f666666);
    }

    private static void countWhat() {
        Due.part("promise 19: 'INVALID_ARGUMENT if what is out of range'");
        JoinedLight x = Scene.pair();
        int[] wrong = {-1, 13, 14, 15, 16, 17, 18, 19, 21, LEAST, GREATEST};
        for (int what : wrong) {
            due("count(" + what + ")", x.count(what), INVALID);
        }
        int[] wanted = {2, 1, 3, 13, 1, 0, 3, 3, 0, 0, 1, 3, 0};
        for (int what = 0; what <= 12; what++) {
            due("count(" + what + ")", x.count(what), wanted[what]);
        }
        due("count(20)", x.count(20), 20);
    }

    private static void countOfLinesAndThings() {
        Due.part("promise 19: '0: lines; 1: things', from none to 8");
        for (int many = 0; many <= 8; many++) {
            due("count(0)", Scene.withLines(many).count(0), many);
            due("count(1)", Scene.withThings(many).count(1), many);
        }
    }

    private static void countWithoutArrivals() {
        Due.part("promise 19: '3: the spread, 0 if none comes', '4: .. otherwise 0 (without lines 0)', '5: .. otherwise 0'");
        JoinedLight[] benches = {new JoinedLight(), pairWithSlit(0, 0), Scene.steepRamp(UP), Scene.steepRamp(DOWN)};
        int[] whats = {2, 3, 4, 5, 7, 10};
        for (JoinedLight x : benches) {
            for (int what : whats) {
                due("count(" + what + ")", x.count(what), 0);
            }
        }
    }

    private static void countOfLostLight() {
        Due.part("promise 19: '6: the light of all lines' to '9: the light lost beyond the height at the screen'");
        countsOfLight("all comes", Scene.pair(), 3, 3, 0, 0);
        countsOfLight("by a slit", pairWithSlit(36, 36), 3, 1, 2, 0);
        countsOfLight("at the screen", Scene.steepRamp(UP), 7, 0, 0, 7);
        JoinedLight x = Scene.steepRamp(DOWN);
        x.slit(999, -9999, 9999);
        countsOfLight("beyond the height at 999", x, 7, 0, 7, 0);
        x.move(999, 918);
        countsOfLight("through at -999, and lost at the screen", x, 7, 0, 0, 7);
        JoinedLight most = Scene.withLines(8);
        for (int k = 0; k < 8; k++) {
            most.dim(k, 999);
        }
        countsOfLight("the most", most, 7992, 7992, 0, 0);
        most.slit(1, 1, 1);
        countsOfLight("the most, lost", most, 7992, 0, 7992, 0);
    }

    private static void countsOfLight(String name, JoinedLight x, int all, int screen, int things, int beyond) {
        due("count(6), " + name, x.count(6), all);
        due("count(7), " + name, x.count(7), screen);
        due("count(8), " + name, x.count(8), things);
        due("count(9), " + name, x.count(9), beyond);
    }

    private static void countOfCells() {
        Due.part("promise 19: '10: cells with light'");
        due("of 8 lines in one cell", Scene.withLines(8).count(10), 1);
        JoinedLight x = eightHeights();
        due("1 wide", x.count(10), 8);
        x.set(0, 359);
        due("359 wide", x.count(10), 1);
        x.set(0, 500);
        due("500 wide", x.count(10), 1);
        x.set(0, 358);
        due("717 / 358 is 2", x.count(10), 2);
        x.slit(999, -999, 0);
        due("none comes", x.count(10), 0);
    }

    private static void countOfStatesAndCharacters() {
        Due.part("promise 19: '11: states in the history; 12: the length of the text', up to their most");
        JoinedLight x = new JoinedLight();
        for (int i = 1; i <= 6; i++) {
            x.set(0, i);
            due("count(11)", x.count(11), Math.min(i, 4));
        }
        for (int i = 1; i <= 62; i++) {
            x.type('x');
            due("count(12)", x.count(12), Math.min(i, 60));
        }
    }
}
