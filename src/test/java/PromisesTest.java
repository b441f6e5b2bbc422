/** Each promise of the document by itself: ordinary inputs, the edges that it names, wrong inputs. */
public final class PromisesTest extends Checks {
    private static void promise(int number, java.util.function.Consumer<AxisTable> test) {
        check("promise " + number, test);
    }

    /** All that can be asked without changing anything: two of these are alike if nothing changed. */
    private static String stateOf(AxisTable x) {
        StringBuilder all = new StringBuilder();
        for (int what = 0; what <= 12; what++) {
            all.append(x.told(what)).append(' ');
        }
        for (int point = 0; point < x.told(0); point++) {
            for (int way = 0; way < 2; way++) {
                for (int k = 0; k < 6; k++) {
                    all.append(x.runAt(point, way, k)).append(' ');
                }
            }
        }
        for (int label = 0; label < 3; label++) {
            all.append(x.word(label)).append(read(x, label)).append(' ');
        }
        return all.append(sheetOf(x)).append(x.fault()).toString();
    }

    private static void refused(AxisTable x, String call, java.util.function.IntSupplier made, int want) {
        String before = stateOf(x);
        due(call, made.getAsInt(), want);
        due("state behind " + call, stateOf(x), before);
    }

    private static void newObject(AxisTable x) {
        int[] told = {3, 20, 0, 0, 0, 0, 0, 1, 0, 17, 0, 0, 0};
        for (int what = 0; what < told.length; what++) {
            due("told(" + what + ")", x.told(what), told[what]);
        }
        due("sheet", sheetOf(x), "0:+0;1:+0;2:+0;p0");
        for (int point = 0; point < 3; point++) {
            due("runAt", x.runAt(point, 0, 0), NONE);
            due("runAt", x.runAt(point, 1, 0), NONE);
            due("table", x.table(point, 0), 20 * point);
        }
        due("undo", x.undo(), NOT);
        due("back 0", x.back(0), NOT);
        due("back 1", x.back(1), NOT);
        due("drop", x.drop(2), NULL);
    }

    private static void writing(AxisTable x) {
        refused(x, "write(-1)", () -> x.write(-1), OUTSIDE);
        refused(x, "write(256)", () -> x.write(256), OUTSIDE);
        due("write(0)", x.write(0), 1);
        due("write(255)", x.write(255), 2);
        for (int k = 3; k <= 200; k++) {
            due("write", x.write(32), k);
        }
        refused(x, "write, full", () -> x.write(32), FULL);
        refused(x, "write(256), full", () -> x.write(256), OUTSIDE);
        due("told(12)", x.told(12), 200);
    }

    private static void erasing(AxisTable x) {
        due("erase, empty", x.erase(), 0);
        say(x, "up 1");
        due("erase", x.erase(), 4);
        due("told(12)", x.told(12), 0);
        due("erase again", x.erase(), 0);
        due("write", x.write('a'), 1);
    }

    private static void faults(AxisTable x) {
        String[] right = {"up 1 2 3", "up1 2 3", "  up  1 2 3  ", "up 1 2 00", "up 40 - 40 0", "up-1-2-3", "up - 0 1 05",
            "up 1 2 3;down 1 2 3", "up 1 2 3 ; down 1 2 3", "axis 2 10", "axis 8 99", "axis 02 10", "at 2 up 1",
            "at 02 down - 40", "axis 4 10;at 3 up 1", "axis 2 10;up 1 2", "at0up1;at1down2"};
        for (String text : right) {
            faultAt(text, -1);
        }
        faultAt("", 0);
        faultAt("   ", 3);
        faultAt("up 1 2", 6);
        faultAt("up 1 2  ", 8);
        faultAt("up 1 2 3 4", 9);
        faultAt("up 1 2 41", 7);
        faultAt("up 1 2 040", 7);
        faultAt("up 1 - - 2 3", 7);
        faultAt("up - 41 1 1", 5);
        faultAt("up 1 2 -", 8);
        faultAt("up 1 2 - ;", 9);
        faultAt("up +1 2 3", 3);
        faultAt("Up 1 2 3", 0);
        faultAt("uP 1 2 3", 0);
        faultAt("ups 1 2 3", 0);
        faultAt("up 1 2 3;", 9);
        faultAt("up 1 2 3; ", 10);
        faultAt("up 1 2 3;;", 9);
        faultAt(";up 1 2 3", 0);
        faultAt("up 1 2 3 down 1 2 3", 9);
        faultAt("up 1 2;down 1 2 3", 6);
        faultAt("up\t1 2 3", 2);
        faultAt("up 1 2 " + (char) 255, 7);
        faultAt((char) 0 + "up 1 2 3", 0);
        faultAt("1", 0);
        faultAt("-", 0);
        moreFaults();
    }

    private static void moreFaults() {
        faultAt("axis 1 20", 5);
        faultAt("axis 9 20", 5);
        faultAt("axis 002 10", 5);
        faultAt("axis 3 9", 7);
        faultAt("axis 3 100", 7);
        faultAt("axis 3", 6);
        faultAt("axis", 4);
        faultAt("axis 3 10 1", 10);
        faultAt("axis - 3 10", 5);
        faultAt("axis up", 5);
        faultAt("at 3 up 1", 3);
        faultAt("at - 0 up 1", 3);
        faultAt("at 0 at 1", 5);
        faultAt("at 0 axis 1", 5);
        faultAt("at 0 left 1", 5);
        faultAt("at 0 1", 5);
        faultAt("at 0 up", 7);
        faultAt("at 0 up up", 8);
        faultAt("at 0 up 1 2", 10);
        faultAt("at up 1", 3);
        faultAt("at", 2);
        faultAt("at;at 0 up 1", 2);
        faultAt("at 0", 4);
        faultAt("at 0;at 0 up 1", 4);
        faultAt("at 0 upz 1", 5);
        faultAt("at 0 aup 1", 5);
        faultAt("axis;at 0 up 1", 4);
        faultAt("axis 3;at 0 up 1", 6);
        faultAt("axis 2 10;at 2 up 1", 13);
        faultAt("axis 2 10;up 1 2 3", 17);
        String many = "at0up1";
        for (int k = 1; k < 24; k++) {
            many += ";at0up1";
        }
        faultAt(many, -1);
        faultAt(many + ";at0up1", many.length());
        faultAt(many + ";", many.length());
        faultAt(many + " 1", many.length() + 1);
    }

    private static void clauses(AxisTable x) {
        say(x, "axis 2 50;at 1 down - 7;up 3 4");
        due("axis", x.axis(), 3);
        due("told(0)", x.told(0), 2);
        due("told(1)", x.told(1), 50);
        due("told(8)", x.told(8), 3);
        due("told(12)", x.told(12), 0);
        due("runAt(1, 1, 0)", x.runAt(1, 1, 0), -7);
        due("runAt(0, 0, 0)", x.runAt(0, 0, 0), 3);
        due("runAt(1, 0, 0)", x.runAt(1, 0, 0), 4);
        say(x, "down 1 2");
        due("axis, runs stay", x.axis(), 1);
        due("told(8)", x.told(8), 5);
        due("runAt(1, 1, 1)", x.runAt(1, 1, 1), 2);
        due("axis, empty", x.axis(), NOT);
        say(x, "at 0 up 1;at 0 up 2;at 0 up 4;at 0 up 5;at 0 up 6;at 0 up 7");
        due("axis, six", x.axis(), 6);
        due("the oldest went", x.runAt(0, 0, 0), 1);
        due("the newest", x.runAt(0, 0, 5), 7);
        due("no seventh", x.runAt(0, 0, 6), NONE);
        say(x, "up 1 2;axis 3 20");
        due("axis, in their order", x.axis(), 2);
        due("no runs", x.told(8), 0);
        due("told(0)", x.told(0), 3);
        String many = "at0up1";
        for (int k = 1; k < 24; k++) {
            many += ";at0up1";
        }
        say(x, many);
        due("axis of 24", x.axis(), 24);
    }

    private static void behindClauses(AxisTable x) {
        x.run(1, 1, 3);
        x.move(30);
        x.move(10);
        x.keep(0);
        x.keep(1);
        spell(x, 0, "ab");
        x.label(2);
        say(x, "at 0 up 10;at 9 up 1");
        refused(x, "axis with a fault", x::axis, NOT);
        due("kept yet", x.back(0), 10);
        x.move(20);
        x.erase();
        say(x, "at 0 up 10");
        due("axis", x.axis(), 1);
        int[] told = {3, 20, 2, 0, -5, 0, 0, 1, 2};
        for (int what = 0; what < told.length; what++) {
            due("told(" + what + ")", x.told(what), told[what]);
        }
        due("nothing to undo", x.undo(), NOT);
        due("told(11)", x.told(11), 0);
        due("nothing kept", x.back(0), NOT);
        due("nothing kept", x.back(1), NOT);
        due("labels", x.turn(0), NULL);
        due("labels", x.turn(2), NULL);
        due("told(10)", x.told(10), 0);
    }

    private static void runs(AxisTable x) {
        due("run(1, 0, 9)", x.run(1, 0, 9), 1);
        due("run(1, 0, 8)", x.run(1, 0, 8), 2);
        for (int k = 0; k < 6; k++) {
            x.run(0, 1, k);
        }
        due("run, seventh", x.run(0, 1, 7), 6);
        due("the next ones stay", x.runAt(1, 0, 0), 9);
        due("the next ones stay", x.runAt(1, 0, 1), 8);
        for (int k = 0; k < 6; k++) {
            due("run", x.run(2, 1, k), k + 1);
        }
        due("run, seventh", x.run(2, 1, -40), 6);
        due("oldest", x.runAt(2, 1, 0), 1);
        due("newest", x.runAt(2, 1, 5), -40);
        due("run(0, 0, 40)", x.run(0, 0, 40), 1);
        due("told(8)", x.told(8), 15);
        due("told(11)", x.told(11), 8);
        refused(x, "run(-1, 2, 41)", () -> x.run(-1, 2, 41), UNKNOWN);
        refused(x, "run(3, 0, 0)", () -> x.run(3, 0, 0), UNKNOWN);
        refused(x, "run(0, -1, 0)", () -> x.run(0, -1, 0), OUTSIDE);
        refused(x, "run(0, 2, 0)", () -> x.run(0, 2, 0), OUTSIDE);
        refused(x, "run(0, 0, 41)", () -> x.run(0, 0, 41), OUTSIDE);
        refused(x, "run(0, 0, -41)", () -> x.run(0, 0, -41), OUTSIDE);
        refused(x, "run of extremes", () -> x.run(MOST, LEAST, LEAST), UNKNOWN);
        refused(x, "run of extremes", () -> x.run(0, 0, LEAST), OUTSIDE);
        // The screw stays where it stands when the table changes.
        due("screw", x.told(4), 0);
    }

    private static void clearing(AxisTable x) {
        x.run(1, 0, 5);
        x.run(1, 0, 6);
        x.run(1, 1, 7);
        due("clear", x.clear(1, 0), 2);
        due("runAt", x.runAt(1, 0, 0), NONE);
        due("the other way stays", x.runAt(1, 1, 0), 7);
        due("told(11)", x.told(11), 4);
        refused(x, "clear, none", () -> x.clear(1, 0), NOT);
        refused(x, "clear(3, 2)", () -> x.clear(3, 2), UNKNOWN);
        refused(x, "clear(-1, 0)", () -> x.clear(-1, 0), UNKNOWN);
        refused(x, "clear(0, 2)", () -> x.clear(0, 2), OUTSIDE);
        refused(x, "clear(0, -1)", () -> x.clear(0, -1), OUTSIDE);
        due("run anew", x.run(1, 0, 1), 1);
    }

    private static void undoing(AxisTable x) {
        x.run(0, 0, 9);
        String[] before = new String[8];
        for (int k = 0; k < 8; k++) {
            before[k] = x.told(3) + " " + x.told(4) + " " + x.told(5) + " " + x.told(6) + " " + x.told(7)
                    + " " + x.told(8) + " " + x.runAt(0, 0, 0) + " " + sheetOf(x);
            if (k % 4 == 3) {
                x.clear(0, 0);
            } else if (k % 2 == 0) {
                x.move(k % 4 == 0 ? 30 : 10);
            } else {
                x.run(0, 0, k);
            }
        }
        due("told(11)", x.told(11), 8);
        for (int k = 7; k >= 0; k--) {
            due("undo", x.undo(), k);
            due("state behind undo", x.told(3) + " " + x.told(4) + " " + x.told(5) + " " + x.told(6) + " " + x.told(7)
                    + " " + x.told(8) + " " + x.runAt(0, 0, 0) + " " + sheetOf(x), before[k]);
        }
        refused(x, "undo, the ninth", x::undo, NOT);
        due("the first run stays", x.runAt(0, 0, 0), 9);
        for (int k = 0; k < 6; k++) {
            x.run(1, 1, k);
        }
        x.run(1, 1, 20);
        due("undo of a seventh run", x.undo(), 6);
        due("the oldest is back", x.runAt(1, 1, 0), 0);
        due("the newest", x.runAt(1, 1, 5), 5);
    }

    private static void keeping(AxisTable x) {
        x.run(0, 0, 4);
        x.move(30);
        x.move(25);
        due("keep(0)", x.keep(0), 25);
        due("keep changes no undo", x.told(11), 3);
        refused(x, "keep(2)", () -> x.keep(2), UNKNOWN);
        refused(x, "keep(-1)", () -> x.keep(-1), UNKNOWN);
        refused(x, "back(2)", () -> x.back(2), UNKNOWN);
        refused(x, "back(-1)", () -> x.back(-1), UNKNOWN);
        refused(x, "back(1)", () -> x.back(1), NOT);
        int screw = x.told(4);
        int travel = x.told(6);
        x.clear(0, 0);
        x.run(2, 1, 40);
        x.move(40);
        due("keep(1)", x.keep(1), 40);
        x.undo();
        due("back(0)", x.back(0), 25);
        due("screw", x.told(4), screw);
        due("turns", x.told(5), 1);
        due("travel", x.told(6), travel);
        due("went down", x.told(7), 0);
        due("table", x.table(0, 0), -2);
        due("sheet", sheetOf(x), "0:-2;1:+0;2:+0;p1");
        due("runs", x.told(8), 1);
        due("runAt", x.runAt(0, 0, 0), 4);
        due("told(11)", x.told(11), 0);
        due("undo", x.undo(), NOT);
        due("back(1)", x.back(1), 40);
        due("runs", x.runAt(2, 1, 0), 40);
        due("runs", x.runAt(0, 0, 0), NONE);
        x.move(0);
        due("keep(0) anew", x.keep(0), 0);
        due("back(1) again", x.back(1), 40);
        due("back(0)", x.back(0), 0);
    }

    private static void runAts(AxisTable x) {
        x.run(1, 0, -7);
        x.run(1, 0, 8);
        due("runAt(1, 0, 0)", x.runAt(1, 0, 0), -7);
        due("runAt(1, 0, 1)", x.runAt(1, 0, 1), 8);
        due("runAt(1, 0, 2)", x.runAt(1, 0, 2), NONE);
        due("runAt(1, 0, MOST)", x.runAt(1, 0, MOST), NONE);
        due("runAt(1, 1, 0)", x.runAt(1, 1, 0), NONE);
        due("runAt(3, 2, -1)", x.runAt(3, 2, -1), UNKNOWN);
        due("runAt(-1, 0, 0)", x.runAt(-1, 0, 0), UNKNOWN);
        due("runAt(0, 2, 0)", x.runAt(0, 2, 0), OUTSIDE);
        due("runAt(0, -1, 0)", x.runAt(0, -1, 0), OUTSIDE);
        due("runAt(0, 0, -1)", x.runAt(0, 0, -1), OUTSIDE);
    }

    private static void points(AxisTable x) {
        x.run(0, 0, 1);
        x.run(0, 0, 2);
        x.run(0, 0, 2);
        x.run(0, 1, -1);
        String[] want = {"5/3", "-1/1", "1/3", "-1/3", "-1/3", "5/3", "0/1"};
        for (int what = 0; what < want.length; what++) {
            due("point(0, " + what + ")", fraction(x, 0, what), want[what]);
        }
        due("point(1, 3)", fraction(x, 1, 3), "20/1");
        due("point(1, 6)", fraction(x, 1, 6), "1/1");
        due("point(3, 7, 2)", x.point(3, 7, 2), UNKNOWN);
        due("point(-1, 0, 0)", x.point(-1, 0, 0), UNKNOWN);
        due("point(0, 7, 0)", x.point(0, 7, 0), OUTSIDE);
        due("point(0, -1, 0)", x.point(0, -1, 0), OUTSIDE);
        due("point(0, 0, 2)", x.point(0, 0, 2), OUTSIDE);
        due("point(0, 0, -1)", x.point(0, 0, -1), OUTSIDE);
        AxisTable pooled = told("axis 3 20;up - 40 0 40;down - 40 0 40");
        due("one pool's mean", fraction(pooled, 0, 4), "20/1");
        due("one pool's mean", fraction(pooled, 2, 4), "20/1");
        due("miss", fraction(pooled, 0, 5), "-20/1");
        due("miss", fraction(pooled, 1, 5), "1/1");
        due("miss", fraction(pooled, 2, 6), "22/1");
    }

    private static void tables(AxisTable x) {
        x.run(0, 0, -1);
        due("half, above 0", x.table(0, 0), 0);
        x.undo();
        x.run(0, 0, 1);
        due("half, below 0", x.table(0, 0), -1);
        x.undo();
        x.run(1, 0, 40);
        due("as great is pooled", x.table(1, 1), 0);
        due("as great is pooled", x.table(0, 2), 2);
        due("rising", x.table(0, 0), 0);
        due("rising", x.table(1, 0), 1);
        due("alone", x.table(2, 1), 2);
        due("alone", x.table(2, 2), 1);
        AxisTable one = told("axis 3 20;up - 40 0 40;down - 40 0 40");
        for (int point = 0; point < 3; point++) {
            due("table", one.table(point, 0), 20 + point);
            due("first", one.table(point, 1), 0);
            due("size", one.table(point, 2), 3);
        }
        AxisTable pushed = told("axis 3 10;up - 20 10 10;down - 20 10 9");
        due("two pools", pushed.table(2, 1), 2);
        due("table", pushed.table(0, 0), 10);
        due("table", pushed.table(1, 0), 11);
        due("1 more than ahead, of another pool too", pushed.table(2, 0), 12);
        due("table(3, 3)", x.table(3, 3), UNKNOWN);
        due("table(-1, 0)", x.table(-1, 0), UNKNOWN);
        due("table(0, 3)", x.table(0, 3), OUTSIDE);
        due("table(0, -1)", x.table(0, -1), OUTSIDE);
    }

    private static void plays(AxisTable x) {
        due("play", playOf(x), "0/1");
        due("play(2)", x.play(2), OUTSIDE);
        due("play(-1)", x.play(-1), OUTSIDE);
        AxisTable half = told("axis 2 20;at 0 up 5");
        due("play", playOf(half), "5/2");
        due("half: nearer to 0", half.told(2), 2);
        AxisTable more = told("axis 3 20;at 0 up 8");
        due("play", playOf(more), "8/3");
        due("nearest", more.told(2), 3);
        AxisTable below = told("axis 2 20;at 0 down 5");
        due("play", playOf(below), "-5/2");
        due("0 at least", below.told(2), 0);
        AxisTable most = told("axis 2 20;up 40 40;down - 40 - 40");
        due("play", playOf(most), "80/1");
        due("sheet", sheetOf(most), "0:+0;1:+0;p80");
    }

    private static void worsts(AxisTable x) {
        due("all alike", x.worst(), 0);
        x.run(2, 1, 10);
        due("alike either way", x.worst(), 4);
        x.undo();
        x.run(0, 1, -1);
        due("from above", x.worst(), 1);
        x.undo();
        x.run(1, 0, 4);
        due("from below", x.worst(), 2);
        AxisTable play = told("axis 2 20;up 3 3");
        // Slope 3/2, table -2 and 18, play 3: from below 1, from above 1.
        due("miss", fraction(play, 0, 5), "1/1");
        due("miss", fraction(play, 1, 6), "1/1");
        due("alike", play.worst(), 0);
    }

    private static void mergings(AxisTable x) {
        x.run(1, 0, 40);
        for (int k = 0; k < 5; k++) {
            x.run(1, 0, 0);
        }
        due("the oldest would go", x.merged(1, 0, 0), 20);
        refused(x, "merged", () -> x.merged(1, 1, 10), 12);
        due("pooled anew", x.merged(0, 0, 40), -20);
        refused(x, "merged(3, 2, 41)", () -> x.merged(3, 2, 41), UNKNOWN);
        refused(x, "merged(-1, 0, 0)", () -> x.merged(-1, 0, 0), UNKNOWN);
        refused(x, "merged(0, 2, 0)", () -> x.merged(0, 2, 0), OUTSIDE);
        refused(x, "merged(0, -1, 0)", () -> x.merged(0, -1, 0), OUTSIDE);
        refused(x, "merged(0, 0, 41)", () -> x.merged(0, 0, 41), OUTSIDE);
        refused(x, "merged(0, 0, -41)", () -> x.merged(0, 0, -41), OUTSIDE);
    }

    private static void moves(AxisTable x) {
        x.run(0, 0, 12);
        // Slope 6, table -6, 20, 40; play 4; the screw is at 0 yet.
        due("play counts", x.told(2), 4);
        refused(x, "move(0)", () -> x.move(0), NOT);
        refused(x, "move(-1)", () -> x.move(-1), OUTSIDE);
        refused(x, "move(41)", () -> x.move(41), OUTSIDE);
        due("move(10)", x.move(10), 7);
        due("move(40)", x.move(40), 40);
        due("turns", x.told(5), 0);
        due("travel", x.told(6), 40);
        due("move(10), down", x.move(10), 3);
        due("turns", x.told(5), 1);
        due("travel", x.told(6), 77);
        due("went down", x.told(7), 0);
        due("move(0), down again", x.move(0), -10);
        due("turns", x.told(5), 1);
        due("travel", x.told(6), 90);
        due("move(1)", x.move(1), -5);
        due("turns", x.told(5), 2);
        due("travel", x.told(6), 95);
        due("went up", x.told(7), 1);
        due("place", x.told(3), 1);
        due("told(11)", x.told(11), 6);
        x.run(0, 0, -40);
        due("the screw stays", x.told(4), -5);
        due("the place stays", x.told(3), 1);
        due("undo", x.undo(), 6);
        due("undo", x.undo(), 5);
        due("place", x.told(3), 0);
        due("screw", x.told(4), -10);
        due("turns", x.told(5), 1);
    }

    private static void counts(AxisTable x) {
        due("countOf(-1)", x.countOf(-1), OUTSIDE);
        due("countOf(41)", x.countOf(41), OUTSIDE);
        due("countOf(LEAST)", x.countOf(LEAST), OUTSIDE);
        due("countOf(MOST)", x.countOf(MOST), OUTSIDE);
        due("countOf(40)", x.countOf(40), 40);
        x.run(0, 0, 12);
        // Table -6, 20, 40: 26 counts for 20 places.
        due("countOf(0)", x.countOf(0), -6);
        due("countOf(1)", x.countOf(1), -5);
        due("countOf(3)", x.countOf(3), -3);
        due("countOf(19)", x.countOf(19), 18);
        due("countOf(20)", x.countOf(20), 20);
        due("placeOf(-7)", x.placeOf(-7), 0);
        due("placeOf(-6)", x.placeOf(-6), 0);
        due("placeOf(-5)", x.placeOf(-5), 1);
        due("placeOf(19)", x.placeOf(19), 20);
        due("placeOf(40)", x.placeOf(40), 40);
        due("placeOf(41)", x.placeOf(41), NONE);
        AxisTable flat = told("axis 3 10;up - 20 10 10;down - 20 10 9");
        due("countOf(9)", flat.countOf(9), 10);
        due("countOf(10)", flat.countOf(10), 11);
        due("countOf(19)", flat.countOf(19), 11);
        due("countOf(20)", flat.countOf(20), 12);
        due("placeOf(11)", flat.placeOf(11), 10);
        due("placeOf(12)", flat.placeOf(12), 20);
    }

    private static void places(AxisTable x) {
        due("placeOf(-201)", x.placeOf(-201), OUTSIDE);
        due("placeOf(-200)", x.placeOf(-200), 0);
        due("placeOf(2000)", x.placeOf(2000), NONE);
        due("placeOf(2001)", x.placeOf(2001), OUTSIDE);
        due("placeOf(LEAST)", x.placeOf(LEAST), OUTSIDE);
        AxisTable y = told("axis 8 99;at 3 up 31;at 5 down - 17;at 6 up 40;at 6 down 40");
        for (int count = -200; count <= 2000; count++) {
            int want = NONE;
            for (int place = 693; place >= 0; place--) {
                want = y.countOf(place) >= count ? place : want;
            }
            due("placeOf(" + count + ")", y.placeOf(count), want);
        }
    }

    private static void telling(AxisTable x) {
        due("told(-1)", x.told(-1), OUTSIDE);
        due("told(13)", x.told(13), OUTSIDE);
        x.run(0, 0, 9);
        x.run(1, 1, -9);
        x.move(35);
        x.move(30);
        spell(x, 0, "abc");
        spell(x, 2, "de");
        say(x, "four");
        // Slopes 9/2, -9/2: wanted -9/2, 49/2: table -5, 24, 40; play 6.
        int[] told = {3, 20, 6, 30, 26, 1, 46, 0, 2, 17, 5, 4, 4};
        for (int what = 0; what < told.length; what++) {
            due("told(" + what + ")", x.told(what), told[what]);
        }
        x.drop(0);
        due("told(10)", x.told(10), 2);
    }

    private static void sheets(AxisTable x) {
        due("sheet(-1)", x.sheet(-1), OUTSIDE);
        due("sheet(0)", x.sheet(0), 48);
        due("sheet(16)", x.sheet(16), 48);
        due("sheet(17)", x.sheet(17), NONE);
        due("sheet(MOST)", x.sheet(MOST), NONE);
        x.run(0, 0, 24);
        x.run(2, 1, -7);
        // Slopes 12, 0, -7/2; wanted 87/2 is as near to 43; play 31/3.
        due("sheet", sheetOf(x), "0:-12;1:+0;2:+3;p10");
        due("told(9)", x.told(9), 19);
        x.undo();
        due("sheet", sheetOf(x), "0:-12;1:+0;2:+0;p8");
        AxisTable longest = told("axis 8 10;up 40 40 40 40 40 40 40 40;down 40 40 40 40 40 40 40 40");
        due("sheet", sheetOf(longest), "0:-40;1:-40;2:-40;3:-40;4:-40;5:-40;6:-40;7:-40;p0");
    }

    private static void makingLabels(AxisTable x) {
        due("label(0)", x.label(0), 0);
        due("label(2)", x.label(2), 0);
        due("turn(1)", x.turn(1), NULL);
        refused(x, "label(3)", () -> x.label(3), UNKNOWN);
        refused(x, "label(-1)", () -> x.label(-1), UNKNOWN);
        spell(x, 0, "abc");
        due("label(0) anew", x.label(0), 0);
        due("empty", read(x, 0), "");
        due("told(10)", x.told(10), 0);
    }

    private static void inserting(AxisTable x) {
        refused(x, "insert(3, 9, 9)", () -> x.insert(3, 9, 9), UNKNOWN);
        refused(x, "insert(-1, 0, 65)", () -> x.insert(-1, 0, 65), UNKNOWN);
        refused(x, "insert(0, 9, 31)", () -> x.insert(0, 9, 31), OUTSIDE);
        refused(x, "insert(0, 9, 127)", () -> x.insert(0, 9, 127), OUTSIDE);
        refused(x, "insert(0, 9, 65)", () -> x.insert(0, 9, 65), NULL);
        x.label(0);
        refused(x, "insert(0, 1, 65)", () -> x.insert(0, 1, 65), INDEX);
        refused(x, "insert(0, -1, 65)", () -> x.insert(0, -1, 65), INDEX);
        due("insert", x.insert(0, 0, 32), 1);
        due("insert", x.insert(0, 1, 126), 2);
        due("insert", x.insert(0, 1, 'm'), 3);
        due("insert", x.insert(0, 0, 'a'), 4);
        due("label", read(x, 0), "a m~");
        for (int k = 5; k <= 24; k++) {
            due("insert", x.insert(0, k - 1, 'z'), k);
        }
        refused(x, "insert, no room", () -> x.insert(0, 24, 'z'), ROOM);
        refused(x, "insert, no room, no place", () -> x.insert(0, 25, 'z'), INDEX);
        refused(x, "insert, no room, no letter", () -> x.insert(0, 25, 9), OUTSIDE);
    }

    private static void cutting(AxisTable x) {
        refused(x, "cut(3, 0, 0)", () -> x.cut(3, 0, 0), UNKNOWN);
        refused(x, "cut(-1, 0, 0)", () -> x.cut(-1, 0, 0), UNKNOWN);
        refused(x, "cut(0, 5, 1)", () -> x.cut(0, 5, 1), NULL);
        spell(x, 0, "abcdef");
        refused(x, "cut(0, 2, 1)", () -> x.cut(0, 2, 1), INDEX);
        refused(x, "cut(0, -1, 1)", () -> x.cut(0, -1, 1), INDEX);
        refused(x, "cut(0, 0, 7)", () -> x.cut(0, 0, 7), INDEX);
        refused(x, "cut(0, 7, 7)", () -> x.cut(0, 7, 7), INDEX);
        refused(x, "cut(0, LEAST, MOST)", () -> x.cut(0, LEAST, MOST), INDEX);
        due("cut of none", x.cut(0, 3, 3), 6);
        due("cut of none at the end", x.cut(0, 6, 6), 6);
        due("cut", x.cut(0, 1, 3), 4);
        due("label", read(x, 0), "adef");
        due("cut at the end", x.cut(0, 3, 4), 3);
        due("label", read(x, 0), "ade");
        due("cut of all", x.cut(0, 0, 3), 0);
        due("it is there yet", x.turn(0), 0);
    }

    private static void joining(AxisTable x) {
        refused(x, "join(0, 3)", () -> x.join(0, 3), UNKNOWN);
        refused(x, "join(-1, 0)", () -> x.join(-1, 0), UNKNOWN);
        refused(x, "join(0, 1)", () -> x.join(0, 1), NULL);
        spell(x, 0, "abcdefgh");
        refused(x, "join(0, 1)", () -> x.join(0, 1), NULL);
        refused(x, "join(1, 0)", () -> x.join(1, 0), NULL);
        spell(x, 1, "xy");
        due("join", x.join(1, 0), 10);
        due("label", read(x, 1), "xyabcdefgh");
        due("the other one stays", read(x, 0), "abcdefgh");
        due("with itself", x.join(0, 0), 16);
        due("label", read(x, 0), "abcdefghabcdefgh");
        refused(x, "join, no room", () -> x.join(0, 1), ROOM);
        refused(x, "join with itself, no room", () -> x.join(0, 0), ROOM);
        x.cut(1, 0, 2);
        due("join, just room", x.join(0, 1), 24);
        x.label(2);
        due("join of none", x.join(0, 2), 24);
        refused(x, "join(2, 3)", () -> x.join(2, 3), UNKNOWN);
    }

    private static void turning(AxisTable x) {
        refused(x, "turn(3)", () -> x.turn(3), UNKNOWN);
        refused(x, "turn(0)", () -> x.turn(0), NULL);
        x.label(0);
        due("turn of none", x.turn(0), 0);
        spell(x, 0, "abc");
        due("turn", x.turn(0), 3);
        due("label", read(x, 0), "cba");
        spell(x, 0, "abcd");
        due("turn", x.turn(0), 4);
        due("label", read(x, 0), "dcba");
    }

    private static void letters(AxisTable x) {
        due("letter(3, 0)", x.letter(3, 0), UNKNOWN);
        due("letter(-1, 0)", x.letter(-1, 0), UNKNOWN);
        due("letter(1, -1)", x.letter(1, -1), NULL);
        spell(x, 1, " ~");
        due("letter(1, 0)", x.letter(1, 0), 32);
        due("letter(1, 1)", x.letter(1, 1), 126);
        due("letter(1, 2)", x.letter(1, 2), INDEX);
        due("letter(1, -1)", x.letter(1, -1), INDEX);
        due("letter(1, LEAST)", x.letter(1, LEAST), INDEX);
    }

    private static void compareTwo(String one, String other, int want) {
        AxisTable x = new AxisTable();
        spell(x, 0, one);
        spell(x, 1, other);
        due("compare " + one + " with " + other, x.compare(0, 1), want);
        due("compare " + other + " with " + one, x.compare(1, 0), 2 - want);
    }

    private static void comparing(AxisTable x) {
        due("compare(0, 3)", x.compare(0, 3), UNKNOWN);
        due("compare(-1, 0)", x.compare(-1, 0), UNKNOWN);
        x.label(0);
        due("compare(0, 1)", x.compare(0, 1), NULL);
        due("compare(1, 0)", x.compare(1, 0), NULL);
        due("compare(0, 0)", x.compare(0, 0), 1);
        compareTwo("", "", 1);
        compareTwo("", "a", 0);
        compareTwo("ab", "abc", 0);
        compareTwo("ab", "ab", 1);
        compareTwo("b", "abc", 2);
        compareTwo("B", "a", 0);
        compareTwo("abd", "abc", 2);
    }

    private static void timing(AxisTable x) {
        due("times(3)", x.times(3), UNKNOWN);
        due("times(0)", x.times(0), NULL);
        x.label(0);
        due("empty", x.times(0), 0);
        String[] labels = {"0", "+0;", ":", "p0", "0:+0;1:+0;2:+0;p0", "0:+0;1:+0;2:+0;p0x", "1:", "q", ";1:+0;2", "0;p0"};
        int[] want = {5, 3, 3, 1, 1, 0, 1, 0, 1, 1};
        for (int k = 0; k < labels.length; k++) {
            spell(x, 0, labels[k]);
            due("times of " + labels[k], x.times(0), want[k]);
        }
        spell(x, 0, "1");
        due("times of 1", x.times(0), 1);
        x.run(1, 0, -22);
        due("times of 1 in 0:+0;1:+11;2:+0;p0", x.times(0), 3);
    }

    private static void words(AxisTable x) {
        due("word(3)", x.word(3), UNKNOWN);
        due("word(0)", x.word(0), NULL);
        String[] labels = {"up", "down", "axis", "at", "", "u", "upp", "Up", " up", "up ", "a", "downs", "ax"};
        for (int k = 0; k < labels.length; k++) {
            spell(x, 0, labels[k]);
            due("word of '" + labels[k] + "'", x.word(0), k < 4 ? k : NONE);
        }
    }

    private static void values(AxisTable x) {
        due("value(3)", x.value(3), UNKNOWN);
        due("value(0)", x.value(0), NULL);
        String[] right = {"0", "7", "0042", "9999", "-9999", "-0", "-1", "-0005"};
        int[] want = {0, 7, 42, 9999, -9999, 0, -1, -5};
        for (int k = 0; k < right.length; k++) {
            spell(x, 0, right[k]);
            due("value of " + right[k], x.value(0), want[k]);
        }
        String[] wrongs = {"", "-", "12345", "-12345", "00000", "+1", "--1", "1-", "1 ", " 1", "1a", "a", "12/4", "12:4"};
        for (String label : wrongs) {
            spell(x, 0, label);
            due("value of '" + label + "'", x.value(0), NUMBER);
        }
    }

    private static void dropping(AxisTable x) {
        refused(x, "drop(3)", () -> x.drop(3), UNKNOWN);
        refused(x, "drop(-1)", () -> x.drop(-1), UNKNOWN);
        refused(x, "drop(0)", () -> x.drop(0), NULL);
        spell(x, 0, "abc");
        due("drop", x.drop(0), 3);
        due("missing", x.letter(0, 0), NULL);
        refused(x, "drop again", () -> x.drop(0), NULL);
        due("label", x.label(0), 0);
        due("empty anew", x.letter(0, 0), INDEX);
        due("drop of an empty one", x.drop(0), 0);
    }

    public static void main(String[] args) {
        promise(1, PromisesTest::newObject);
        promise(2, PromisesTest::writing);
        promise(3, PromisesTest::erasing);
        promise(4, PromisesTest::faults);
        promise(5, PromisesTest::clauses);
        promise(5, PromisesTest::behindClauses);
        promise(6, PromisesTest::runs);
        promise(7, PromisesTest::clearing);
        promise(8, PromisesTest::undoing);
        promise(9, PromisesTest::keeping);
        promise(10, PromisesTest::keeping);
        promise(11, PromisesTest::runAts);
        promise(12, PromisesTest::points);
        promise(13, PromisesTest::tables);
        promise(14, PromisesTest::plays);
        promise(15, PromisesTest::worsts);
        promise(16, PromisesTest::mergings);
        promise(17, PromisesTest::moves);
        promise(18, PromisesTest::counts);
        promise(19, PromisesTest::places);
        promise(20, PromisesTest::telling);
        promise(21, PromisesTest::sheets);
        promise(22, PromisesTest::makingLabels);
        promise(23, PromisesTest::inserting);
        promise(24, PromisesTest::cutting);
        promise(25, PromisesTest::joining);
        promise(26, PromisesTest::turning);
        promise(27, PromisesTest::letters);
        promise(28, PromisesTest::comparing);
        promise(29, PromisesTest::timing);
        promise(30, PromisesTest::words);
        promise(31, PromisesTest::values);
        promise(32, PromisesTest::dropping);
        finish();
    }
}
