import java.util.function.Consumer;

/** What the tests of the project share: to tell, spell and read, and to count what was not as due. */
abstract class Checks {
    // Written out here anew, so that a constant of the class that is not the document's is seen.
    static final int NONE = -100000, UNKNOWN = -100001, OUTSIDE = -100002, NOT = -100003, FULL = -100004;
    static final int NULL = -100011, INDEX = -100012, ROOM = -100013, NUMBER = -100014;
    static final int LEAST = Integer.MIN_VALUE, MOST = Integer.MAX_VALUE;

    private static int checks = 0;
    private static int wrong = 0;
    private static String about = "";

    static void due(String call, int got, int want) {
        checks++;
        if (got != want) {
            tell(call + " answered " + got + ", due is " + want);
        }
    }

    static void due(String call, String got, String want) {
        checks++;
        if (!got.equals(want)) {
            tell(call + " gave " + got + ", due is " + want);
        }
    }

    static void tell(String what) {
        wrong++;
        System.out.println(about + ": " + what);
    }

    /** One test of its own, on a new object; what it is about is told with all that is not as due in it. */
    static void check(String what, Consumer<AxisTable> test) {
        about = what;
        try {
            test.accept(new AxisTable());
        } catch (RuntimeException thrown) {
            tell("threw " + thrown);
        }
    }

    static void finish() {
        System.out.println(checks + " checks, " + wrong + " wrong");
        if (wrong != 0 || checks == 0) {
            System.exit(1);
        }
    }

    static void say(AxisTable x, String text) {
        for (int k = 0; k < text.length(); k++) {
            x.write(text.charAt(k));
        }
    }

    static void done(AxisTable x, String text) {
        say(x, text);
        due("axis of " + text, x.axis() > 0 ? 1 : 0, 1);
    }

    static AxisTable told(String text) {
        AxisTable x = new AxisTable();
        done(x, text);
        return x;
    }

    static void faultAt(String text, int want) {
        AxisTable x = new AxisTable();
        say(x, text);
        due("fault of '" + text + "'", x.fault(), want);
        due("told(12) behind fault", x.told(12), text.length());
        due("told(8) behind fault", x.told(8), 0);
        due("told(0) behind fault", x.told(0), 3);
    }

    static String rowOf(String part, String between, int count) {
        return part + (between + part).repeat(count - 1);
    }

    static void spell(AxisTable x, int label, String letters) {
        x.label(label);
        for (int k = 0; k < letters.length(); k++) {
            x.insert(label, k, letters.charAt(k));
        }
    }

    static String read(AxisTable x, int label) {
        StringBuilder letters = new StringBuilder();
        for (int k = 0; x.letter(label, k) >= 0; k++) {
            letters.append((char) x.letter(label, k));
        }
        return letters.toString();
    }

    static String sheetOf(AxisTable x) {
        StringBuilder letters = new StringBuilder();
        for (int k = 0; x.sheet(k) != NONE; k++) {
            letters.append((char) x.sheet(k));
        }
        return letters.toString();
    }

    static String fraction(AxisTable x, int point, int what) {
        return x.point(point, what, 0) + "/" + x.point(point, what, 1);
    }

    static String playOf(AxisTable x) {
        return x.play(0) + "/" + x.play(1);
    }

    static String runsOf(AxisTable x, int point, int way) {
        StringBuilder runs = new StringBuilder();
        for (int k = 0; x.runAt(point, way, k) != NONE; k++) {
            runs.append(k == 0 ? "" : " ").append(x.runAt(point, way, k));
        }
        return runs.toString();
    }

    /** Of each point the number asked for by what: 0 the table, 1 the first point of its pool, 2 how many that has. */
    static String tableOf(AxisTable x, int what) {
        StringBuilder row = new StringBuilder();
        for (int point = 0; point < x.told(0); point++) {
            row.append(point == 0 ? "" : " ").append(x.table(point, what));
        }
        return row.toString();
    }

    /** Where the axis stands: place, screw, turns, travel, 1 if it went up last. */
    static String standOf(AxisTable x) {
        return x.told(3) + " " + x.told(4) + " " + x.told(5) + " " + x.told(6) + " " + x.told(7);
    }
}
