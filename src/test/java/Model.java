import java.util.ArrayList;
import java.util.Comparator;
import java.util.List;
import java.util.TreeMap;
import java.util.function.ToIntFunction;
import java.util.regex.Matcher;
import java.util.regex.Pattern;

/** The document a second time, by other means: states that never change, streams and patterns. */
final class Model {
    static final int INVALID = Due.INVALID;
    static final int NOT_POSSIBLE = Due.NOT_POSSIBLE;
    static final int LIMIT = Due.LIMIT;
    static final int NOT_FOUND = Due.NOT_FOUND;

    record Line(int colour, int light) {
    }

    record Thing(int place, boolean slit, int first, int second, int turned) {
    }

    record State(List<Line> lines, TreeMap<Integer, Thing> things, int width) {
        State copy() {
            return new State(new ArrayList<>(lines), new TreeMap<>(things), width);
        }
    }

    /** Where a line is, or was lost, and how high and steep it was; why is 0 if it is not lost. */
    record Ray(int place, int height, int slope, int why) {
    }

    record Fault(int position, int reason, int cause, int orders) {
        int of(int what) {
            return reason == 0 ? NOT_FOUND : what == 0 ? position : what == 1 ? reason : cause;
        }
    }

    private static final String NUMBER = "[0-9]{1,4}";
    private static final Pattern ORDER = Pattern.compile("l" + NUMBER + "," + NUMBER + ";|[ud]" + NUMBER + "," + NUMBER
        + "," + NUMBER + ";|s" + NUMBER + "," + NUMBER + ";|x" + NUMBER + ";");

    State now = new State(new ArrayList<>(), new TreeMap<>(), 20);
    List<State> history = new ArrayList<>();
    String text = "";

    private static boolean in(int value, int least, int greatest) {
        return least <= value && value <= greatest;
    }

    private int change(ToIntFunction<State> what) {
        State then = now.copy();
        return keep(then, what.applyAsInt(then));
    }

    private int keep(State then, int answer) {
        if (answer < 0) {
            return answer;
        }
        history.add(now);
        if (history.size() == 5) {
            history.remove(0);
        }
        now = then;
        return answer;
    }

    int line(int colour, int light) {
        return change(s -> line(s, colour, light));
    }

    private static int line(State s, int colour, int light) {
        if (!in(colour, 380, 780) || !in(light, 1, 999)) {
            return INVALID;
        }
        if (s.lines().size() == 8) {
            return LIMIT;
        }
        s.lines().add(new Line(colour, light));
        return s.lines().size() - 1;
    }

    int dim(int line, int light) {
        return change(s -> {
            if (!in(line, 0, s.lines().size() - 1) || !in(light, 1, 999)) {
                return INVALID;
            }
            return s.lines().set(line, new Line(s.lines().get(line).colour(), light)).light();
        });
    }

    int prism(int place, int glass, int strength, int turned) {
        return change(s -> prism(s, place, glass, strength, turned));
    }

    private static int prism(State s, int place, int glass, int strength, int turned) {
        if (!in(place, 1, 999) || !in(glass, 0, 1) || !in(strength, 1, 99) || Math.abs((long) turned) != 1) {
            return INVALID;
        }
        return lay(s, new Thing(place, false, glass, strength, turned));
    }

    int slit(int place, int lower, int upper) {
        return change(s -> slit(s, place, lower, upper));
    }

    private static int slit(State s, int place, int lower, int upper) {
        if (!in(place, 1, 999) || !in(lower, -9999, 9999) || !in(upper, -9999, 9999) || upper < lower) {
            return INVALID;
        }
        return lay(s, new Thing(place, true, lower, upper, 0));
    }

    private static int lay(State s, Thing thing) {
        if (s.things().containsKey(thing.place())) {
            return NOT_POSSIBLE;
        }
        if (s.things().size() == 8) {
            return LIMIT;
        }
        s.things().put(thing.place(), thing);
        return s.things().size();
    }

    int take(int place) {
        return change(s -> take(s, place));
    }

    private static int take(State s, int place) {
        return s.things().remove(place) == null ? INVALID : s.things().size();
    }

    int move(int from, int to) {
        return change(s -> move(s, from, to));
    }

    private static int move(State s, int from, int to) {
        Thing thing = s.things().get(from);
        if (thing == null || !in(to, 1, 999)) {
            return INVALID;
        }
        if (s.things().containsKey(to)) {
            return NOT_POSSIBLE;
        }
        s.things().remove(from);
        s.things().put(to, new Thing(to, thing.slit(), thing.first(), thing.second(), thing.turned()));
        return s.things().headMap(to).size();
    }

    int set(int what, int value) {
        if (what != 0 || !in(value, 1, 500)) {
            return INVALID;
        }
        State then = new State(now.lines(), now.things(), value);
        return keep(then, now.width());
    }

    private static int down(long value, long by) {
        return (int) Math.floor((double) value / by);
    }

    private static Ray ray(State s, int line, int end) {
        Ray ray = new Ray(0, 0, 0, 0);
        for (Thing thing : s.things().headMap(end).values()) {
            ray = meet(go(ray, thing.place()), thing, s.lines().get(line).colour());
            if (ray.why() != 0) {
                return ray;
            }
        }
        return go(ray, end);
    }

    private static Ray go(Ray ray, int place) {
        int height = ray.height() + down((long) ray.slope() * (place - ray.place()), 1000);
        return new Ray(place, height, ray.slope(), Math.abs(height) > 999 ? 2 : 0);
    }

    private static Ray meet(Ray ray, Thing thing, int colour) {
        if (ray.why() != 0) {
            return ray;
        }
        if (thing.slit()) {
            boolean through = ray.height() >= thing.first() && ray.height() <= thing.second();
            return new Ray(ray.place(), ray.height(), ray.slope(), through ? 0 : 1);
        }
        int bend = down((long) thing.second() * bend(thing.first(), colour), 100);
        return new Ray(ray.place(), ray.height(), ray.slope() + thing.turned() * bend, 0);
    }

    private static int bend(int glass, int colour) {
        return glass == 0 ? 500 + (780 - colour) / 8 : 600 + (780 - colour) / 3;
    }

    private static List<Ray> rays(State s) {
        List<Ray> rays = new ArrayList<>();
        for (int k = 0; k < s.lines().size(); k++) {
            rays.add(ray(s, k, 1000));
        }
        return rays;
    }

    private static List<Ray> arrived(State s) {
        return rays(s).stream().filter(r -> r.why() == 0).toList();
    }

    private static int spread(State s) {
        List<Ray> rays = arrived(s);
        return rays.stream().mapToInt(Ray::height).max().orElse(0) - rays.stream().mapToInt(Ray::height).min().orElse(0);
    }

    int lineOf(int line, int what) {
        if (!in(line, 0, now.lines().size() - 1) || !in(what, 0, 7)) {
            return INVALID;
        }
        Ray r = ray(now, line, 1000);
        if (what >= 3 && (r.why() == 0) == (what >= 6)) {
            return NOT_FOUND;
        }
        return new int[] {now.lines().get(line).colour(), now.lines().get(line).light(), r.why() == 0 ? 1 : 0,
            r.height(), r.slope(), down(r.height(), now.width()), r.place(), r.why()}[what];
    }

    int thing(int index, int what) {
        if (index < 0 || !in(what, 0, 6)) {
            return INVALID;
        }
        if (index >= now.things().size()) {
            return NOT_FOUND;
        }
        Thing t = new ArrayList<>(now.things().values()).get(index);
        if (what == 4 && t.slit()) {
            return NOT_FOUND;
        }
        int come = 0;
        int lost = 0;
        for (int k = 0; k < now.lines().size(); k++) {
            Ray ahead = ray(now, k, t.place());
            boolean reaches = ahead.place() == t.place();
            come |= reaches && ahead.why() == 0 ? 1 << k : 0;
            lost += reaches && meet(ahead, t, 500).why() != 0 ? now.lines().get(k).light() : 0;
        }
        int turned = t.turned() == 1 ? 1 : 2;
        return new int[] {t.place(), t.slit() ? 1 : 0, t.first(), t.second(), turned, come, lost}[what];
    }

    int height(int line, int place) {
        if (!in(line, 0, now.lines().size() - 1) || !in(place, 0, 1000)) {
            return INVALID;
        }
        Ray r = ray(now, line, place);
        return r.why() == 0 ? r.height() : NOT_FOUND;
    }

    /** Rows of a cell, its light and its lines, the brightest first. */
    private List<int[]> cells() {
        TreeMap<Integer, int[]> cells = new TreeMap<>();
        for (int k = 0; k < now.lines().size(); k++) {
            Ray r = ray(now, k, 1000);
            if (r.why() == 0) {
                int[] cell = cells.computeIfAbsent(down(r.height(), now.width()), c -> new int[] {c, 0, 0});
                cell[1] += now.lines().get(k).light();
                cell[2] += 1 << k;
            }
        }
        return cells.values().stream().sorted(Comparator.comparingInt((int[] c) -> -c[1])).toList();
    }

    int light(int cell) {
        return in(cell, -9999, 9999) ? cells().stream().filter(c -> c[0] == cell).mapToInt(c -> c[1]).sum() : INVALID;
    }

    int bright(int index, int what) {
        if (index < 0 || !in(what, 0, 2)) {
            return INVALID;
        }
        List<int[]> cells = cells();
        return index < cells.size() ? cells.get(index)[what] : NOT_FOUND;
    }

    int bending(int glass, int colour) {
        return in(glass, 0, 1) && in(colour, 380, 780) ? bend(glass, colour) : INVALID;
    }

    private static int[] bestOf(List<int[]> choices) {
        return choices.stream().sorted(Comparator.comparingInt((int[] c) -> -c[1]).thenComparingInt(c -> c[2])
            .thenComparingInt(c -> c[0])).findFirst().orElseThrow();
    }

    int best(int place, int what) {
        if (!now.things().containsKey(place) || !in(what, 0, 2)) {
            return INVALID;
        }
        List<int[]> choices = new ArrayList<>();
        for (int to = 10; to <= 990; to += 10) {
            State s = now.copy();
            Thing t = s.things().remove(place);
            if (s.things().containsKey(to)) {
                continue;
            }
            s.things().put(to, new Thing(to, t.slit(), t.first(), t.second(), t.turned()));
            choices.add(new int[] {to, arrived(s).size(), spread(s)});
        }
        return bestOf(choices)[what];
    }

    int alone(int line, int place) {
        if (!in(line, 0, now.lines().size() - 1) || !in(place, 1, 999)) {
            return INVALID;
        }
        if (now.things().containsKey(place)) {
            return NOT_POSSIBLE;
        }
        int height = height(line, place);
        for (int k = 0; k < now.lines().size() && height != NOT_FOUND; k++) {
            if (k != line && height(k, place) == height) {
                return NOT_POSSIBLE;
            }
        }
        return height;
    }

    int tuned(int place) {
        Thing t = now.things().get(place);
        if (t == null || t.slit()) {
            return INVALID;
        }
        List<int[]> choices = new ArrayList<>();
        for (int strength = 1; strength < 100; strength++) {
            State s = now.copy();
            s.things().put(place, new Thing(place, false, t.first(), strength, t.turned()));
            choices.add(new int[] {strength, arrived(s).size(), spread(s)});
        }
        return bestOf(choices)[0];
    }

    private int lightLost(boolean atScreen, boolean atThings, boolean not) {
        int sum = 0;
        for (int k = 0; k < now.lines().size(); k++) {
            Ray r = ray(now, k, 1000);
            boolean here = r.why() == 0 ? not : r.place() == 1000 ? atScreen : atThings;
            sum += here ? now.lines().get(k).light() : 0;
        }
        return sum;
    }

    int share() {
        if (now.lines().isEmpty()) {
            return NOT_FOUND;
        }
        return Float.floatToRawIntBits((float) lightLost(false, false, true) / (float) lightLost(true, true, true));
    }

    int count(int what) {
        boolean all = !now.lines().isEmpty() && arrived(now).size() == now.lines().size();
        boolean joined = all && arrived(now).stream().map(r -> down(r.height(), now.width())).distinct().count() == 1;
        boolean same = joined && arrived(now).stream().map(Ray::slope).distinct().count() == 1;
        int set = 0;
        for (int k = 0; k < now.lines().size(); k++) {
            set += ray(now, k, 1000).why() == 0 ? 1 << k : 0;
        }
        if (what == 20) {
            return now.width();
        }
        return !in(what, 0, 12) ? INVALID : new int[] {now.lines().size(), now.things().size(), set, spread(now),
            joined ? 1 : 0, same ? 1 : 0, lightLost(true, true, true), lightLost(false, false, true),
            lightLost(false, true, false), lightLost(true, false, false), cells().size(), history.size(),
            text.length()}[what];
    }

    int undo() {
        if (history.isEmpty()) {
            return NOT_POSSIBLE;
        }
        now = history.remove(history.size() - 1);
        return history.size();
    }

    int type(int character) {
        if (!in(character, 32, 126)) {
            return INVALID;
        }
        if (text.length() == 60) {
            return LIMIT;
        }
        text += (char) character;
        return text.length();
    }

    int clearText() {
        int was = text.length();
        text = "";
        return was;
    }

    int fault(int what) {
        return in(what, 0, 2) ? run(now.copy()).of(what) : INVALID;
    }

    int play() {
        State then = now.copy();
        Fault fault = run(then);
        return fault.reason() == 0 ? keep(then, fault.orders()) : NOT_POSSIBLE;
    }

    private Fault run(State s) {
        int position = 0;
        int orders = 0;
        for (; position < text.length(); orders++) {
            String rest = text.substring(position);
            Matcher matcher = ORDER.matcher(rest);
            if (!matcher.lookingAt()) {
                return new Fault(position, 1, breaksOff(rest), orders);
            }
            int answer = order(s, matcher.group());
            if (answer < 0) {
                return new Fault(position, 2, answer, orders);
            }
            position += matcher.end();
        }
        return new Fault(0, 0, 0, orders);
    }

    /** The first character up to which the text is not the beginning of any order. */
    private static int breaksOff(String rest) {
        for (int i = 0; i < rest.length(); i++) {
            Matcher matcher = ORDER.matcher(rest.substring(0, i + 1));
            if (!matcher.matches() && !matcher.hitEnd()) {
                return i;
            }
        }
        return rest.length();
    }

    private static int order(State s, String order) {
        String[] parts = order.substring(1, order.length() - 1).split(",");
        int[] n = new int[3];
        for (int i = 0; i < parts.length; i++) {
            n[i] = Integer.parseInt(parts[i]);
        }
        return switch (order.charAt(0)) {
            case 'l' -> line(s, n[0], n[1]);
            case 'u' -> prism(s, n[0], n[1], n[2], 1);
            case 'd' -> prism(s, n[0], n[1], n[2], -1);
            case 's' -> slit(s, n[0], -n[1], n[1]);
            default -> take(s, n[0]);
        };
    }
}
