/** Counts the answers that are not as due, and prints them. */
final class Due {
    static final int INVALID = -1000000001;
    static final int NOT_POSSIBLE = -1000000002;
    static final int LIMIT = -1000000003;
    static final int NOT_FOUND = -1000000004;

    private static String part = "";
    private static int parts = 0;
    private static int asked = 0;
    private static int wrong = 0;

    private Due() {
    }

    static void part(String name) {
        part = name;
        parts++;
    }

    static void due(String call, long got, long want) {
        asked++;
        if (got != want) {
            wrong++;
            System.out.println(part + ": " + call + " answered " + got + ", due is " + want);
        }
    }

    static void holds(String what, boolean holds) {
        asked++;
        if (!holds) {
            wrong++;
            System.out.println(part + ": " + what);
        }
    }

    static int wrong() {
        return wrong;
    }

    static void end() {
        System.out.println(asked + " answers in " + parts + " parts, " + wrong + " not as due");
        if (wrong != 0 || asked == 0) {
            System.exit(1);
        }
    }
}
