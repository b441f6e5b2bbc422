/** The promises one by one: for each sentence that names an edge one test, of what is taken and answered there. */
public final class EdgesTest extends Checks {
    private static void firstOfAll(AxisTable x) {
        int[] told = {3, 20, 0, 0, 0, 0, 0, 1, 0, 17, 0, 0, 0};
        for (int what = 0; what < told.length; what++) {
            due("told(" + what + ")", x.told(what), told[what]);
        }
        due("table", tableOf(x, 0), "0 20 40");
        due("pools", tableOf(x, 1) + ", " + tableOf(x, 2), "0 1 2, 1 1 1");
        due("text", x.fault(), 0);
        due("kept", x.back(0), NOT);
        due("kept", x.back(1), NOT);
    }

    private static void constants(AxisTable x) {
        due("NONE", AxisTable.NONE, NONE);
        due("UNKNOWN", AxisTable.UNKNOWN, UNKNOWN);
        due("OUTSIDE", AxisTable.OUTSIDE, OUTSIDE);
        due("NOT", AxisTable.NOT, NOT);
        due("FULL", AxisTable.FULL, FULL);
        due("NULL", AxisTable.NULL, NULL);
        due("INDEX", AxisTable.INDEX, INDEX);
        due("ROOM", AxisTable.ROOM, ROOM);
        due("NUMBER", AxisTable.NUMBER, NUMBER);
    }

    private static void twoObjectsShareNothing(AxisTable x) {
        AxisTable other = new AxisTable();
        x.run(0, 0, 9);
        x.move(30);
        x.keep(0);
        x.label(0);
        x.write('a');
        due("told", other.told(3) + other.told(8) + other.told(11) + other.told(12), 0);
        due("back", other.back(0), NOT);
        due("label", other.turn(0), NULL);
    }

    private static void writeLetters0To255(AxisTable x) {
        due("write(-1)", x.write(-1), OUTSIDE);
        due("write(0)", x.write(0), 1);
        due("write(255)", x.write(255), 2);
        due("write(256)", x.write(256), OUTSIDE);
        due("told(12)", x.told(12), 2);
        due("fault", x.fault(), 0);
    }

    private static void writeTo200(AxisTable x) {
        for (int k = 1; k <= 200; k++) {
            due("write", x.write('a'), k);
        }
        due("one more", x.write('a'), FULL);
        due("of no letter OUTSIDE is first", x.write(256), OUTSIDE);
        due("of no letter OUTSIDE is first", x.write(-1), OUTSIDE);
    }

    private static void eraseEmptyAndFull(AxisTable x) {
        due("empty", x.erase(), 0);
        x.write(' ');
        due("one", x.erase(), 1);
        due("empty again", x.erase(), 0);
        say(x, "z".repeat(200));
        due("full", x.erase(), 200);
        due("told(12)", x.told(12), 0);
        done(x, "at 0 up 1");
        due("nothing is left of what was erased", runsOf(x, 0, 0), "1");
        due("behind axis", x.erase(), 0);
    }

    private static void eraseChangesNothingElse(AxisTable x) {
        x.run(0, 0, 1);
        x.move(7);
        x.keep(1);
        x.label(2);
        say(x, "axis 2 10");
        due("erase", x.erase(), 9);
        due("points", x.told(0), 3);
        due("stands", standOf(x), "7 6 0 6 1");
        due("told(11)", x.told(11), 2);
        due("label", x.turn(2), 0);
        due("kept", x.back(1), 7);
    }

    private static void faultChangesNothing(AxisTable x) {
        x.run(0, 0, 1);
        x.move(7);
        say(x, "axis 2 10;at 1 up 3");
        due("none", x.fault(), -1);
        due("again", x.fault(), -1);
        due("points", x.told(0), 3);
        due("runs", x.told(8), 1);
        due("text", x.told(12), 19);
        due("stands", standOf(x), "7 6 0 6 1");
        say(x, " ");
        say(x, "4");
        due("there is one", x.fault(), 20);
        due("again", x.fault(), 20);
    }

    /** What an earlier text would have made of the axis counts for nothing in the next. */
    private static void faultReadsAnew(AxisTable x) {
        say(x, "axis 5 10;at 4 up 1;left");
        due("fault", x.fault(), 20);
        x.erase();
        say(x, "up 1 2 3");
        due("three points yet", x.fault(), -1);
        x.erase();
        say(x, "at 3 up 1");
        due("three points yet", x.fault(), 3);
        due("axis", x.axis(), NOT);
        x.erase();
        say(x, "axis 2 10;left");
        due("axis", x.axis(), NOT);
        x.erase();
        say(x, "at 2 up 1");
        due("three points yet", x.fault(), -1);
        due("axis", x.axis(), 1);
        due("runs", x.told(8), 1);
    }

    private static void axisAnswersHowMany(AxisTable x) {
        say(x, "at 0 up 1");
        due("one", x.axis(), 1);
        due("empty then", x.told(12), 0);
        due("empty: a fault", x.axis(), NOT);
        say(x, "at 0 up 1;at 0 up 1");
        due("two", x.axis(), 2);
        say(x, rowOf("at0up1", ";", 24));
        due("24", x.axis(), 24);
    }

    private static void axisNotWithAFault(AxisTable x) {
        say(x, rowOf("at0up1", ";", 25));
        due("25", x.axis(), NOT);
        due("the text stays", x.told(12), 174);
        due("no runs", x.told(8), 0);
        x.erase();
        say(x, "at 0 up 1");
        say(x, ";");
        due("it ends too soon", x.axis(), NOT);
        due("what is ahead of the fault is not done", x.told(8), 0);
        say(x, "at 0 up 2");
        due("mended", x.axis(), 2);
        due("runs", runsOf(x, 0, 0), "1 2");
    }

    private static void runCounts(AxisTable x) {
        int[] want = {1, 2, 3, 4, 5, 6, 6, 6};
        for (int k = 0; k < want.length; k++) {
            due("run", x.run(2, 1, k), want[k]);
        }
        due("the first of the next", x.run(2, 0, 9), 1);
        due("runs", runsOf(x, 2, 1), "2 3 4 5 6 7");
        due("each can be undone", x.told(11), 8);
    }

    private static void runAtTheEdgesOfPoints(AxisTable x) {
        due("the first point", x.run(0, 0, 1), 1);
        due("the last point", x.run(2, 0, 1), 1);
        due("behind it", x.run(3, 0, 1), UNKNOWN);
        due("ahead of the first", x.run(-1, 0, 1), UNKNOWN);
        done(x, "axis 8 10");
        due("the last of eight", x.run(7, 1, 1), 1);
        due("behind it", x.run(8, 1, 1), UNKNOWN);
        done(x, "axis 2 10");
        due("the last of two", x.run(1, 1, 1), 1);
        due("behind it", x.run(2, 1, 1), UNKNOWN);
    }

    private static void clearOfOneAndSix(AxisTable x) {
        due("none", x.clear(0, 0), NOT);
        x.run(0, 0, 5);
        due("one", x.clear(0, 0), 1);
        due("none again", x.clear(0, 0), NOT);
        for (int k = 0; k < 7; k++) {
            x.run(0, 0, k);
        }
        x.run(0, 1, 8);
        x.run(1, 0, 9);
        due("six", x.clear(0, 0), 6);
        due("no more", runsOf(x, 0, 0), "");
        due("the other way stays", runsOf(x, 0, 1), "8");
        due("the next point stays", runsOf(x, 1, 0), "9");
        due("a run is the first again", x.run(0, 0, 3), 1);
        due("runs", runsOf(x, 0, 0), "3");
    }

    private static void clearAtTheEdgesOfPoints(AxisTable x) {
        done(x, "up 1 2 3;down 4 5 6");
        due("ahead of the first", x.clear(-1, 0), UNKNOWN);
        due("behind the last", x.clear(3, 0), UNKNOWN);
        due("the last, way 1", x.clear(2, 1), 1);
        due("the first, way 0", x.clear(0, 0), 1);
        due("way 2", x.clear(1, 2), OUTSIDE);
        due("way -1", x.clear(1, -1), OUTSIDE);
        due("runs", x.told(8), 4);
    }

    private static void undoOfEach(AxisTable x) {
        x.run(0, 0, 9);
        due("of a run", x.undo(), 0);
        due("runs", x.told(8), 0);
        due("sheet", sheetOf(x), "0:+0;1:+0;2:+0;p0");
        x.run(0, 0, 1);
        x.run(0, 0, 2);
        x.clear(0, 0);
        due("of clear", x.undo(), 2);
        due("runs in their order", runsOf(x, 0, 0), "1 2");
        x.move(30);
        x.move(10);
        due("of a move", x.undo(), 3);
        due("stands", standOf(x), "30 30 0 30 1");
        due("of a move", x.undo(), 2);
        due("stands", standOf(x), "0 0 0 0 1");
    }

    private static void undoOfASeventhRun(AxisTable x) {
        for (int k = 1; k <= 7; k++) {
            x.run(0, 0, k);
        }
        due("runs", runsOf(x, 0, 0), "2 3 4 5 6 7");
        due("undo", x.undo(), 6);
        due("the oldest is there again", runsOf(x, 0, 0), "1 2 3 4 5 6");
    }

    private static void undoTheLastEight(AxisTable x) {
        due("none", x.undo(), NOT);
        for (int k = 1; k <= 8; k++) {
            x.move(k);
            due("can be undone", x.told(11), k);
        }
        x.move(9);
        due("eight at most", x.told(11), 8);
        for (int k = 7; k >= 0; k--) {
            due("undo", x.undo(), k);
            due("place", x.told(3), k + 1);
        }
        due("one more", x.undo(), NOT);
        due("the first of nine stays", x.told(3), 1);
    }

    private static void undoTheLastEightOfMany(AxisTable x) {
        for (int k = 1; k <= 21; k++) {
            x.move(k);
        }
        for (int k = 0; k < 5; k++) {
            x.undo();
        }
        due("place", x.told(3), 16);
        due("three yet", x.told(11), 3);
        for (int k = 31; k <= 36; k++) {
            x.move(k);
        }
        due("eight at most", x.told(11), 8);
        int[] places = {35, 34, 33, 32, 31, 16, 15, 14};
        for (int k = 0; k < 8; k++) {
            due("undo", x.undo(), 7 - k);
            due("place", x.told(3), places[k]);
        }
        due("one more", x.undo(), NOT);
    }

    private static void undoOfNothingElse(AxisTable x) {
        x.run(0, 0, 1);
        x.keep(0);
        x.label(0);
        x.insert(0, 0, 'a');
        x.write('a');
        x.erase();
        x.run(3, 0, 1);
        x.clear(2, 0);
        x.move(0);
        x.axis();
        x.merged(0, 0, 3);
        x.fault();
        due("one yet", x.told(11), 1);
        due("undo", x.undo(), 0);
        due("runs", x.told(8), 0);
        due("the label stays", read(x, 0), "a");
        due("undo", x.undo(), NOT);
    }

    private static void undoIsNotUndone(AxisTable x) {
        x.run(0, 0, 1);
        x.run(0, 0, 2);
        due("undo", x.undo(), 1);
        due("undo", x.undo(), 0);
        due("undo", x.undo(), NOT);
        due("a new run", x.run(0, 0, 3), 1);
        due("undo", x.undo(), 0);
        due("runs", runsOf(x, 0, 0), "");
    }

    private static void keepNoughtAndOne(AxisTable x) {
        due("keep(-1)", x.keep(-1), UNKNOWN);
        due("keep(0)", x.keep(0), 0);
        x.move(40);
        due("keep(1)", x.keep(1), 40);
        due("keep(2)", x.keep(2), UNKNOWN);
        due("back(0)", x.back(0), 0);
        due("back(1)", x.back(1), 40);
    }

    private static void keepAnew(AxisTable x) {
        x.move(10);
        x.keep(0);
        x.move(20);
        due("anew", x.keep(0), 20);
        x.move(30);
        due("the later one", x.back(0), 20);
    }

    private static void keepLeavesUndo(AxisTable x) {
        x.move(10);
        x.keep(0);
        due("told(11)", x.told(11), 1);
        due("undo", x.undo(), 0);
        due("place", x.told(3), 0);
        due("what is kept stays", x.back(0), 10);
    }

    private static void keepAllThatIsNamed(AxisTable x) {
        x.run(0, 0, 9);
        x.run(0, 1, -9);
        x.move(30);
        x.move(10);
        due("stands", standOf(x), "10 4 1 56 0");
        x.keep(0);
        x.clear(0, 0);
        x.run(2, 0, 30);
        x.move(40);
        x.move(39);
        due("back", x.back(0), 10);
        due("stands", standOf(x), "10 4 1 56 0");
        due("runs", runsOf(x, 0, 0) + runsOf(x, 0, 1), "9-9");
        due("runs", x.told(8), 2);
        due("sheet", sheetOf(x), "0:+0;1:+0;2:+0;p6");
        x.move(5);
        due("down again is no turn", x.told(5), 1);
    }

    private static void backLeavesTheRest(AxisTable x) {
        x.keep(0);
        spell(x, 1, "ab");
        say(x, "up");
        x.back(0);
        due("label", read(x, 1), "ab");
        due("text", x.told(12), 2);
    }

    private static void backWithNothingKept(AxisTable x) {
        due("back(0)", x.back(0), NOT);
        due("back(1)", x.back(1), NOT);
        due("back(-1)", x.back(-1), UNKNOWN);
        due("back(2)", x.back(2), UNKNOWN);
        x.keep(1);
        due("back(0), as 1 is kept", x.back(0), NOT);
        due("back(1)", x.back(1), 0);
    }

    private static void backTwice(AxisTable x) {
        x.move(10);
        x.keep(0);
        x.move(20);
        due("back", x.back(0), 10);
        x.run(0, 0, 5);
        x.move(40);
        due("back again", x.back(0), 10);
        due("runs", x.told(8), 0);
    }

    private static void backAndNothingCanBeUndone(AxisTable x) {
        x.move(10);
        x.keep(0);
        for (int k = 11; k < 20; k++) {
            x.move(k);
        }
        x.back(0);
        due("told(11)", x.told(11), 0);
        due("undo", x.undo(), NOT);
        x.move(12);
        due("undo", x.undo(), 0);
        due("place", x.told(3), 10);
    }

    private static void backSinceTheLastText(AxisTable x) {
        x.move(10);
        x.keep(0);
        say(x, "at 9 up 1");
        due("a text with a fault", x.axis(), NOT);
        due("kept yet", x.back(0), 10);
        x.erase();
        done(x, "at 0 up 1");
        due("kept no more", x.back(0), NOT);
        due("keep", x.keep(0), 0);
        due("kept since", x.back(0), 0);
    }

    private static void runAtTheKth(AxisTable x) {
        due("none", x.runAt(0, 0, 0), NONE);
        for (int k = 0; k < 6; k++) {
            x.run(0, 0, 10 + k);
            due("the newest", x.runAt(0, 0, k), 10 + k);
            due("behind it", x.runAt(0, 0, k + 1), NONE);
        }
        due("the oldest", x.runAt(0, 0, 0), 10);
        due("k 5", x.runAt(0, 0, 5), 15);
        due("k 6, that the next way would hold", x.runAt(0, 0, 6), NONE);
        x.run(0, 1, 30);
        due("k 6", x.runAt(0, 0, 6), NONE);
        due("k below 0", x.runAt(0, 1, -1), OUTSIDE);
        due("most", x.runAt(0, 0, MOST), NONE);
        due("least", x.runAt(0, 0, LEAST), OUTSIDE);
    }

    private static void pointWhatNoughtToSix(AxisTable x) {
        x.run(1, 0, 3);
        x.run(1, 1, 2);
        String[] want = {"3/1", "2/1", "5/2", "35/2", "35/2", "0/1", "-1/1"};
        for (int what = 0; what < want.length; what++) {
            due("what " + what, fraction(x, 1, what), want[what]);
        }
        due("what -1", x.point(1, -1, 0), OUTSIDE);
        due("what 7", x.point(1, 7, 0), OUTSIDE);
        due("part -1", x.point(1, 0, -1), OUTSIDE);
        due("part 2", x.point(1, 0, 2), OUTSIDE);
        due("point -1", x.point(-1, 0, 0), UNKNOWN);
        due("point 3", x.point(3, 0, 0), UNKNOWN);
    }

    private static void tableWhatNoughtToTwo(AxisTable x) {
        done(x, "at 1 up 40;at 1 down 40");
        // Wanted 0, -20, 40: the first two in one pool of -10.
        due("what 0", x.table(1, 0), -9);
        due("what 1", x.table(1, 1), 0);
        due("what 2", x.table(1, 2), 2);
        due("what -1", x.table(1, -1), OUTSIDE);
        due("what 3", x.table(1, 3), OUTSIDE);
        due("the last point", x.table(2, 0), 40);
        due("behind it", x.table(3, 0), UNKNOWN);
    }

    private static void playParts(AxisTable x) {
        x.run(0, 1, 7);
        due("above", x.play(0), -7);
        due("below", x.play(1), 3);
        due("-1", x.play(-1), OUTSIDE);
        due("2", x.play(2), OUTSIDE);
    }

    private static void mergedChangesNothing(AxisTable x) {
        due("merged", x.merged(1, 0, 10), 15);
        due("the same again", x.merged(1, 0, 10), 15);
        due("runs", x.told(8), 0);
        due("told(11)", x.told(11), 0);
        due("table", tableOf(x, 0), "0 20 40");
        due("play", playOf(x), "0/1");
        due("sheet", sheetOf(x), "0:+0;1:+0;2:+0;p0");
    }

    private static void moveToTheEdges(AxisTable x) {
        due("to where it stands", x.move(0), NOT);
        due("below 0", x.move(-1), OUTSIDE);
        due("behind the last", x.move(41), OUTSIDE);
        due("to the last", x.move(40), 40);
        due("there it stands", x.move(40), NOT);
        due("behind the last", x.move(41), OUTSIDE);
        due("to 0", x.move(0), 0);
        due("there it stands", x.move(0), NOT);
        due("three", standOf(x), "0 0 1 80 0");
        due("two can be undone", x.told(11), 2);
    }

    /** Where it stands is told by the place; that the table has changed does not make it another. */
    private static void moveNotThoughTheTableChanged(AxisTable x) {
        x.move(20);
        x.run(1, 0, 10);
        due("countOf", x.countOf(20), 15);
        due("move", x.move(20), NOT);
        due("screw", x.told(4), 20);
    }

    private static void placeOfFrom200BelowTo2000(AxisTable x) {
        due("-201", x.placeOf(-201), OUTSIDE);
        due("-200", x.placeOf(-200), 0);
        due("0", x.placeOf(0), 0);
        due("1", x.placeOf(1), 1);
        due("40", x.placeOf(40), 40);
        due("41", x.placeOf(41), NONE);
        due("2000", x.placeOf(2000), NONE);
        due("2001", x.placeOf(2001), OUTSIDE);
    }

    private static void toldNoughtToTwelve(AxisTable x) {
        due("told(-1)", x.told(-1), OUTSIDE);
        due("told(0)", x.told(0), 3);
        x.write('a');
        due("told(12)", x.told(12), 1);
        due("told(13)", x.told(13), OUTSIDE);
    }

    private static void toldOfAllLabels(AxisTable x) {
        due("missing", x.told(10), 0);
        x.label(1);
        due("empty", x.told(10), 0);
        for (int label = 0; label < 3; label++) {
            spell(x, label, "abcdefghijklmnopqrstuvwx");
        }
        due("full", x.told(10), 72);
        x.cut(1, 0, 4);
        due("cut", x.told(10), 68);
        x.drop(0);
        due("one less", x.told(10), 44);
        x.label(2);
        due("one empty", x.told(10), 20);
    }

    private static void sheetKth(AxisTable x) {
        due("-1", x.sheet(-1), OUTSIDE);
        due("the first", x.sheet(0), '0');
        due("the second", x.sheet(1), 58);
        due("plus", x.sheet(2), '+');
        due("the fifth", x.sheet(4), 59);
        due("p", x.sheet(15), 'p');
        due("the last", x.sheet(16), '0');
        due("beyond", x.sheet(17), NONE);
        due("far beyond", x.sheet(MOST), NONE);
        x.run(0, 0, 40);
        due("longer now", x.told(9), 19);
        due("the last", x.sheet(18), '3');
        due("beyond", x.sheet(19), NONE);
        x.undo();
        due("shorter again", x.sheet(17), NONE);
    }

    private static void labelANewOne(AxisTable x) {
        due("missing", x.label(0), 0);
        due("empty", x.label(0), 0);
        spell(x, 0, "abcdefghijklmnopqrstuvwx");
        due("full", x.label(0), 0);
        due("empty", x.letter(0, 0), INDEX);
        due("the others are missing yet", x.drop(1), NULL);
    }

    private static void insertAtNoughtToLength(AxisTable x) {
        x.label(0);
        due("1 of an empty one", x.insert(0, 1, 'a'), INDEX);
        due("-1 of an empty one", x.insert(0, -1, 'a'), INDEX);
        due("0 of an empty one", x.insert(0, 0, 'b'), 1);
        due("at its length", x.insert(0, 1, 'd'), 2);
        due("ahead of all", x.insert(0, 0, 'a'), 3);
        due("between", x.insert(0, 2, 'c'), 4);
        due("behind its length", x.insert(0, 5, 'e'), INDEX);
        due("letters", read(x, 0), "abcd");
    }

    private static void cutSpans(AxisTable x) {
        x.label(0);
        due("(0, 0) of an empty one", x.cut(0, 0, 0), 0);
        due("(0, 1) of an empty one", x.cut(0, 0, 1), INDEX);
        due("(1, 1) of an empty one", x.cut(0, 1, 1), INDEX);
        due("(-1, 0) of an empty one", x.cut(0, -1, 0), INDEX);
        spell(x, 0, "abcdef");
        due("of none, ahead", x.cut(0, 0, 0), 6);
        due("of none, behind", x.cut(0, 6, 6), 6);
        due("behind the length", x.cut(0, 6, 7), INDEX);
        due("behind the length", x.cut(0, 0, 7), INDEX);
        due("from behind to ahead", x.cut(0, 3, 2), INDEX);
        due("from below 0", x.cut(0, -1, 3), INDEX);
        due("letters", read(x, 0), "abcdef");
        due("the last", x.cut(0, 5, 6), 5);
        due("the first", x.cut(0, 0, 1), 4);
        due("between", x.cut(0, 1, 3), 2);
        due("letters", read(x, 0), "be");
        due("all", x.cut(0, 0, 2), 0);
        due("it is there yet", x.turn(0), 0);
    }

    private static void joinTo24(AxisTable x) {
        spell(x, 0, "abcdefghijkl");
        spell(x, 1, "mnopqrstuvwx");
        due("to just 24", x.join(0, 1), 24);
        due("letters", read(x, 0), "abcdefghijklmnopqrstuvwx");
        due("the other one stays", read(x, 1), "mnopqrstuvwx");
        x.cut(0, 0, 11);
        due("one too many", x.cut(1, 0, 0) + x.join(0, 1), 12 + ROOM);
        due("as it was", read(x, 0), "lmnopqrstuvwx");
    }

    private static void joinItself(AxisTable x) {
        x.label(0);
        due("empty", x.join(0, 0), 0);
        spell(x, 0, "abcdefghijkl");
        due("12", x.join(0, 0), 24);
        due("letters", read(x, 0), "abcdefghijklabcdefghijkl");
        due("24", x.join(0, 0), ROOM);
        x.cut(0, 13, 24);
        due("13", x.join(0, 0), ROOM);
        due("as it was", read(x, 0), "abcdefghijkla");
    }

    private static void joinAnEmptyOne(AxisTable x) {
        spell(x, 0, "abcdefghijklmnopqrstuvwx");
        x.label(1);
        due("behind a full one", x.join(0, 1), 24);
        due("a full one behind it", x.join(1, 0), 24);
        due("letters", read(x, 1), "abcdefghijklmnopqrstuvwx");
    }

    private static void turnOfNoneToAll(AxisTable x) {
        String letters = "abcdefghijklmnopqrstuvwx";
        for (int length : new int[] {0, 1, 2, 3, 23, 24}) {
            spell(x, 0, letters.substring(0, length));
            due("turn", x.turn(0), length);
            due("letters", read(x, 0), new StringBuilder(letters.substring(0, length)).reverse().toString());
        }
    }

    private static void letterKth(AxisTable x) {
        x.label(0);
        due("of an empty one", x.letter(0, 0), INDEX);
        spell(x, 0, " b~");
        due("-1", x.letter(0, -1), INDEX);
        due("the first", x.letter(0, 0), 32);
        due("the last", x.letter(0, 2), 126);
        due("behind it", x.letter(0, 3), INDEX);
        x.cut(0, 2, 3);
        due("one that was there", x.letter(0, 2), INDEX);
    }

    private static void compareTwo(String one, String other, int want) {
        AxisTable x = new AxisTable();
        spell(x, 0, one);
        spell(x, 2, other);
        due("'" + one + "' with '" + other + "'", x.compare(0, 2), want);
        due("'" + other + "' with '" + one + "'", x.compare(2, 0), 2 - want);
        due("'" + one + "' with itself", x.compare(0, 0), 1);
    }

    private static void compareLetterByLetter(AxisTable x) {
        compareTwo("", "", 1);
        compareTwo("a", "b", 0);
        compareTwo("ab", "ac", 0);
        compareTwo("abc", "abc", 1);
        compareTwo("Z", "a", 0);
        compareTwo(" ", "~", 0);
        compareTwo("abcdefghijklmnopqrstuvwx", "abcdefghijklmnopqrstuvwy", 0);
        compareTwo("abcdefghijklmnopqrstuvwx", "abcdefghijklmnopqrstuvwx", 1);
        compareTwo("az", "b", 0);
    }

    private static void compareTheShorterFirst(AxisTable x) {
        compareTwo("", "a", 0);
        compareTwo("", " ", 0);
        compareTwo("a", "aa", 0);
        compareTwo("abcdefghijklmnopqrstuvw", "abcdefghijklmnopqrstuvwx", 0);
        compareTwo("a", "a ", 0);
        compareTwo("b", "ab", 2);
    }

    private static void timesOf(AxisTable x, String label, int want) {
        spell(x, 0, label);
        due("times of '" + label + "'", x.times(0), want);
    }

    private static void timesAtWhateverPlaces(AxisTable x) {
        done(x, "axis 2 20");
        timesOf(x, "", 0);
        timesOf(x, "0:+0;1:+0;p0", 1);
        timesOf(x, "0:+0;1:+0;p0 ", 0);
        timesOf(x, "0:+0;1:+0;p00", 0);
        timesOf(x, " 0:+0;1:+0;p0", 0);
        timesOf(x, "0:+0;1:+0;p", 1);
        timesOf(x, ":+0;1:+0;p0", 1);
        timesOf(x, "0", 4);
        timesOf(x, "+0;", 2);
        timesOf(x, "p0", 1);
        timesOf(x, "0:", 1);
        timesOf(x, "P0", 0);
        timesOf(x, "0:+0;1:+0;p0abcdefghijkl", 0);
        x.run(0, 0, -22);
        x.run(0, 1, -22);
        due("sheet", sheetOf(x), "0:+21;1:+2;p0");
        timesOf(x, "2", 2);
        timesOf(x, "1", 2);
        timesOf(x, "0", 2);
    }

    private static void wordOf(AxisTable x, String label, int want) {
        spell(x, 0, label);
        due("word of '" + label + "'", x.word(0), want);
    }

    private static void wordOfFour(AxisTable x) {
        String[] words = {"up", "down", "axis", "at"};
        for (int k = 0; k < words.length; k++) {
            wordOf(x, words[k], k);
            wordOf(x, words[k] + "s", NONE);
            wordOf(x, words[k] + " ", NONE);
            wordOf(x, " " + words[k], NONE);
            wordOf(x, words[k].substring(1), NONE);
            wordOf(x, words[k].substring(0, words[k].length() - 1), NONE);
            wordOf(x, words[k].toUpperCase(), NONE);
            for (int place = 0; place < words[k].length(); place++) {
                wordOf(x, words[k].substring(0, place) + "z" + words[k].substring(place + 1), NONE);
            }
        }
        wordOf(x, "", NONE);
        wordOf(x, "0", NONE);
    }

    private static void valueOf(AxisTable x, String label, int want) {
        spell(x, 0, label);
        due("value of '" + label + "'", x.value(0), want);
    }

    private static void valueOfOneToFourDigits(AxisTable x) {
        valueOf(x, "", NUMBER);
        valueOf(x, "0", 0);
        valueOf(x, "9", 9);
        valueOf(x, "1234", 1234);
        valueOf(x, "9999", 9999);
        valueOf(x, "0000", 0);
        valueOf(x, "0009", 9);
        valueOf(x, "12345", NUMBER);
        valueOf(x, "00000", NUMBER);
        valueOf(x, "100000000000000000000000", NUMBER);
        valueOf(x, "12/4", NUMBER);
        valueOf(x, "12:4", NUMBER);
        valueOf(x, "/", NUMBER);
        valueOf(x, ":", NUMBER);
        valueOf(x, " 1", NUMBER);
        valueOf(x, "1 ", NUMBER);
        valueOf(x, "1 2", NUMBER);
        valueOf(x, "up", NUMBER);
    }

    private static void valueWithMinusAhead(AxisTable x) {
        valueOf(x, "-", NUMBER);
        valueOf(x, "-0", 0);
        valueOf(x, "-1", -1);
        valueOf(x, "-9999", -9999);
        valueOf(x, "-0001", -1);
        valueOf(x, "-12345", NUMBER);
        valueOf(x, "--1", NUMBER);
        valueOf(x, "- 1", NUMBER);
        valueOf(x, "1-", NUMBER);
        valueOf(x, "1-2", NUMBER);
        valueOf(x, "+1", NUMBER);
        valueOf(x, "-a", NUMBER);
    }

    private static void dropAndMissing(AxisTable x) {
        due("missing", x.drop(0), NULL);
        x.label(0);
        due("empty", x.drop(0), 0);
        due("missing again", x.drop(0), NULL);
        spell(x, 0, "abcdefghijklmnopqrstuvwx");
        spell(x, 1, "ab");
        due("full", x.drop(0), 24);
        due("missing", x.letter(0, 0), NULL);
        due("the next one stays", read(x, 1), "ab");
        due("anew", x.label(0), 0);
        due("it is empty", read(x, 0), "");
    }

    /** The 512th call is promised as the first is. */
    private static void fiveHundredAndTwelveCalls(AxisTable x) {
        // 9 and 1 calls; then 501 moves between the ends: up to the last first, down by the play more.
        done(x, "axis 8 99");
        int travel = 0;
        for (int k = 1; k <= 501; k++) {
            due("move", x.move(k % 2 == 1 ? 693 : 0), k % 2 == 1 ? 693 : 0);
            travel += 693;
        }
        due("the 512th: travel", x.told(6), travel);
        AxisTable y = new AxisTable();
        for (int k = 1; k < 512; k++) {
            y.run(0, 0, k % 41);
        }
        due("the 512th: undo", y.undo(), 7);
        AxisTable z = new AxisTable();
        z.label(0);
        for (int k = 1; k < 511; k++) {
            z.insert(0, 0, 'a' + k % 26);
        }
        due("the 512th: insert", z.insert(0, 0, 'a'), ROOM);
    }

    private static void first() {
        check("a new object", EdgesTest::firstOfAll);
        check("the constants", EdgesTest::constants);
        check("a new object shares nothing", EdgesTest::twoObjectsShareNothing);
        check("write: 0 .. 255", EdgesTest::writeLetters0To255);
        check("write: FULL", EdgesTest::writeTo200);
        check("erase: empty, full", EdgesTest::eraseEmptyAndFull);
        check("erase: the text alone", EdgesTest::eraseChangesNothingElse);
        check("fault: nothing changes", EdgesTest::faultChangesNothing);
        check("fault: read anew", EdgesTest::faultReadsAnew);
        check("axis: how many there were", EdgesTest::axisAnswersHowMany);
        check("axis: NOT", EdgesTest::axisNotWithAFault);
        check("run: how many there are", EdgesTest::runCounts);
        check("run: UNKNOWN", EdgesTest::runAtTheEdgesOfPoints);
        check("clear: how many there were", EdgesTest::clearOfOneAndSix);
        check("clear: UNKNOWN, OUTSIDE", EdgesTest::clearAtTheEdgesOfPoints);
        check("undo: run, clear, move", EdgesTest::undoOfEach);
        check("undo: a run where the oldest went", EdgesTest::undoOfASeventhRun);
        check("undo: the last 8, and one more", EdgesTest::undoTheLastEight);
        check("undo: the last 8 of many", EdgesTest::undoTheLastEightOfMany);
        check("undo: of run, clear, move alone", EdgesTest::undoOfNothingElse);
        check("undo: not of undo", EdgesTest::undoIsNotUndone);
    }

    private static void kept() {
        check("keep: k 0, 1", EdgesTest::keepNoughtAndOne);
        check("keep: anew", EdgesTest::keepAnew);
        check("keep: what can be undone stays", EdgesTest::keepLeavesUndo);
        check("keep: runs, where it stands, turns, travel", EdgesTest::keepAllThatIsNamed);
        check("back: labels and text stay", EdgesTest::backLeavesTheRest);
        check("back: NOT", EdgesTest::backWithNothingKept);
        check("back: twice", EdgesTest::backTwice);
        check("back: nothing can be undone", EdgesTest::backAndNothingCanBeUndone);
        check("back: since the last text", EdgesTest::backSinceTheLastText);
    }

    private static void asked() {
        check("runAt: 0 the oldest, NONE", EdgesTest::runAtTheKth);
        check("point: what, part", EdgesTest::pointWhatNoughtToSix);
        check("table: what", EdgesTest::tableWhatNoughtToTwo);
        check("play: part", EdgesTest::playParts);
        check("merged: nothing changes", EdgesTest::mergedChangesNothing);
        check("move: 0 to the last, NOT", EdgesTest::moveToTheEdges);
        check("move: NOT by the place", EdgesTest::moveNotThoughTheTableChanged);
        check("placeOf: -200 .. 2000", EdgesTest::placeOfFrom200BelowTo2000);
        check("told: 0 .. 12", EdgesTest::toldNoughtToTwelve);
        check("told: letters of all labels", EdgesTest::toldOfAllLabels);
        check("sheet: NONE beyond", EdgesTest::sheetKth);
    }

    private static void labelled() {
        check("label: a new one, empty", EdgesTest::labelANewOne);
        check("insert: 0 to its length", EdgesTest::insertAtNoughtToLength);
        check("cut: from i on, ahead of j", EdgesTest::cutSpans);
        check("join: ROOM", EdgesTest::joinTo24);
        check("join: itself", EdgesTest::joinItself);
        check("join: an empty one", EdgesTest::joinAnEmptyOne);
        check("turn: from behind", EdgesTest::turnOfNoneToAll);
        check("letter: INDEX", EdgesTest::letterKth);
        check("compare: letter by letter", EdgesTest::compareLetterByLetter);
        check("compare: the shorter one first", EdgesTest::compareTheShorterFirst);
        check("times: at whatever places, 0 of an empty one", EdgesTest::timesAtWhateverPlaces);
        check("word: four, NONE", EdgesTest::wordOfFour);
        check("value: 1 to 4 digits", EdgesTest::valueOfOneToFourDigits);
        check("value: - ahead of them", EdgesTest::valueWithMinusAhead);
        check("drop: missing from now on", EdgesTest::dropAndMissing);
        check("512 calls", EdgesTest::fiveHundredAndTwelveCalls);
    }

    public static void main(String[] args) {
        first();
        kept();
        asked();
        labelled();
        finish();
    }
}
