import java.util.Random;

/** Runs of 512 calls, always the same ones, on the class and on the model beside it. */
public final class ModelTest {
    private static final int RUNS = 600;
    private static final int CALLS = 512;
    private static final int[] ODD = {Integer.MIN_VALUE, -10000, -9999, -1000, -2, -1, 0, 1, 2, 7, 8, 9, 10, 60, 379, 380, 780,
        781, 999, 1000, 1001, 9999, 10000, Integer.MAX_VALUE};

    private final Random random;
    private final boolean steep;
    private final JoinedLight x = new JoinedLight();
    private final Model model = new Model();
    private String waiting = "";
    private String call = "";

    private ModelTest(int run) {
        random = new Random(run);
        steep = run % 3 == 0;
    }

    public static void main(String[] args) {
        for (int run = 0; run < RUNS && Due.wrong() < 20; run++) {
            Due.part("run " + run);
            ModelTest test = new ModelTest(run);
            for (int i = 0; i < CALLS && Due.wrong() < 20; i++) {
                test.next(i);
            }
        }
        Due.end();
    }

    private int pick(int least, int greatest) {
        if (random.nextInt(60) == 0) {
            return ODD[random.nextInt(ODD.length)];
        }
        int edge = random.nextInt(12);
        return edge == 0 ? least : edge == 1 ? greatest : least + random.nextInt(greatest - least + 1);
    }

    private int line() {
        int lines = model.now.lines().size();
        return random.nextInt(25) == 0 ? pick(-1, 8) : lines == 0 ? 0 : random.nextInt(lines);
    }

    private int laidPlace() {
        int things = model.now.things().size();
        if (things == 0 || random.nextInt(20) == 0) {
            return place();
        }
        return (Integer) model.now.things().keySet().toArray()[random.nextInt(things)];
    }

    private int place() {
        return switch (random.nextInt(5)) {
            case 0 -> pick(1, 999);
            case 1 -> pick(1, 30);
            case 2 -> pick(990, 1000);
            case 3 -> 10 * random.nextInt(101);
            default -> random.nextInt(8) == 0 ? laidPlace() : pick(1, 999);
        };
    }

    private int strength() {
        return steep ? pick(60, 99) : pick(1, random.nextInt(3) == 0 ? 99 : 20);
    }

    private String place(String letter) {
        return letter + (random.nextInt(3) == 0 ? laidPlace() : place());
    }

    private String order() {
        String order = switch (random.nextInt(8)) {
            case 0, 1 -> "l" + pick(380, 780) + "," + pick(1, 999) + ";";
            case 2 -> place("u") + "," + random.nextInt(2) + "," + strength() + ";";
            case 3 -> place("d") + "," + random.nextInt(2) + "," + strength() + ";";
            case 4 -> place("s") + "," + pick(0, 999) + ";";
            case 5 -> "s" + place() + ",0" + pick(0, 99) + ";";
            default -> "x" + laidPlace() + ";";
        };
        if (random.nextInt(12) == 0) {
            int at = random.nextInt(order.length());
            String odd = random.nextBoolean() ? "" : "0,;x~ ls9".substring(random.nextInt(9)).substring(0, 1);
            order = order.substring(0, at) + odd + order.substring(at + random.nextInt(2));
        }
        return order;
    }

    private int character() {
        if (random.nextInt(50) == 0) {
            return pick(20, 140);
        }
        if (waiting.isEmpty()) {
            waiting = order();
        }
        char character = waiting.charAt(0);
        waiting = waiting.substring(1);
        return character;
    }

    private void due(String name, int got, int want) {
        Due.due("call " + call + ", " + name, got, want);
    }

    private void next(int number) {
        call = String.valueOf(number);
        int kind = random.nextInt(100);
        if (kind < 30) {
            write();
        } else if (kind < 50) {
            change();
        } else if (kind < 55) {
            due("undo()", x.undo(), model.undo());
        } else {
            ask();
        }
    }

    private void write() {
        int kind = random.nextInt(40);
        if (kind == 0) {
            waiting = "";
            due("clearText()", x.clearText(), model.clearText());
        } else if (kind < 3) {
            due("play()", x.play(), model.play());
        } else if (kind < 8) {
            int what = pick(0, 2);
            due("fault(" + what + ")", x.fault(what), model.fault(what));
        } else if (kind == 8 && x.fault(1) == 2 || kind == 9) {
            due("clearText()", x.clearText(), model.clearText());
        } else {
            int character = character();
            due("type(" + character + ")", x.type(character), model.type(character));
        }
    }

    private void change() {
        int a = place();
        int b = laidPlace();
        switch (random.nextInt(10)) {
            case 0, 1 -> {
                int colour = pick(380, 780);
                int light = pick(1, random.nextBoolean() ? 3 : 999);
                due("line(" + colour + ", " + light + ")", x.line(colour, light), model.line(colour, light));
            }
            case 2 -> {
                int line = line();
                int light = pick(1, 999);
                due("dim(" + line + ", " + light + ")", x.dim(line, light), model.dim(line, light));
            }
            case 3, 4, 5 -> prism(a);
            case 6 -> {
                int middle = pick(-60, 60);
                int upper = random.nextInt(10) == 0 ? pick(-9999, 9999) : middle + random.nextInt(200) - 3;
                due("slit(" + a + ", " + middle + ", " + upper + ")", x.slit(a, middle, upper), model.slit(a, middle, upper));
            }
            case 7 -> due("take(" + b + ")", x.take(b), model.take(b));
            case 8 -> due("move(" + b + ", " + a + ")", x.move(b, a), model.move(b, a));
            default -> {
                int what = random.nextInt(12) == 0 ? pick(-1, 20) : 0;
                int value = pick(1, random.nextBoolean() ? 30 : 500);
                due("set(" + what + ", " + value + ")", x.set(what, value), model.set(what, value));
            }
        }
    }

    private void prism(int place) {
        int glass = pick(0, 1);
        int strength = strength();
        int turned = random.nextInt(30) == 0 ? pick(-2, 2) : steep || random.nextBoolean() ? 1 : -1;
        due("prism(" + place + ", " + glass + ", " + strength + ", " + turned + ")",
            x.prism(place, glass, strength, turned), model.prism(place, glass, strength, turned));
    }

    private void ask() {
        int line = line();
        int what = pick(0, 7);
        int index = pick(0, 8);
        int place = random.nextInt(4) == 0 ? laidPlace() + random.nextInt(2) : place();
        switch (random.nextInt(12)) {
            case 0 -> due("lineOf(" + line + ", " + what + ")", x.lineOf(line, what), model.lineOf(line, what));
            case 1, 2 -> due("thing(" + index + ", " + what + ")", x.thing(index, what), model.thing(index, what));
            case 3 -> due("height(" + line + ", " + place + ")", x.height(line, place), model.height(line, place));
            case 4 -> {
                int height = x.lineOf(line, 5);
                int cell = height == Due.NOT_FOUND || random.nextInt(4) == 0 ? pick(-60, 60) : height;
                due("light(" + cell + ")", x.light(cell), model.light(cell));
            }
            case 5 -> {
                int rank = pick(0, 3);
                int of = pick(0, 2);
                due("bright(" + rank + ", " + of + ")", x.bright(rank, of), model.bright(rank, of));
            }
            case 6 -> {
                int colour = pick(380, 780);
                int glass = pick(0, 1);
                due("bending(" + glass + ", " + colour + ")", x.bending(glass, colour), model.bending(glass, colour));
            }
            case 7 -> {
                int from = laidPlace();
                int of = pick(0, 2);
                due("best(" + from + ", " + of + ")", x.best(from, of), model.best(from, of));
            }
            case 8 -> due("alone(" + line + ", " + place + ")", x.alone(line, place), model.alone(line, place));
            case 9 -> {
                int from = laidPlace();
                due("tuned(" + from + ")", x.tuned(from), model.tuned(from));
            }
            case 10 -> due("share()", x.share(), model.share());
            default -> {
                int of = random.nextInt(8) == 0 ? 20 : pick(0, 12);
                due("count(" + of + ")", x.count(of), model.count(of));
            }
        }
    }
}
