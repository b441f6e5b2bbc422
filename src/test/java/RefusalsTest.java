import java.util.function.Consumer;
import java.util.function.Function;
import java.util.function.ToIntFunction;

/**
 * Every call that is refused, with the first refusal that fits where several do, and every call that only asks:
 * behind it all is as it would be without it, whatever is asked and done then.
 */
public final class RefusalsTest extends Checks {
    /** What is done ahead of the call. */
    private static Consumer<AxisTable> ahead = x -> { };

    // ---- what can be seen of an object; each on an object of its own, so that none has more than 512 calls

    private static String toldAndRuns(AxisTable x) {
        StringBuilder all = new StringBuilder();
        for (int what = 0; what <= 12; what++) {
            all.append(x.told(what)).append(' ');
        }
        for (int point = 0; point < x.told(0); point++) {
            all.append(runsOf(x, point, 0)).append('/').append(runsOf(x, point, 1)).append(' ');
        }
        return all.append(sheetOf(x)).toString();
    }

    private static String figures(AxisTable x) {
        StringBuilder all = new StringBuilder(playOf(x)).append(' ').append(x.worst());
        for (int point = 0; point < x.told(0); point++) {
            for (int what = 0; what <= 6; what++) {
                all.append(' ').append(fraction(x, point, what));
            }
        }
        for (int what = 0; what <= 2; what++) {
            all.append(' ').append(tableOf(x, what));
        }
        return all.append(' ').append(x.countOf(7)).append(' ').append(x.placeOf(7)).toString();
    }

    private static String labels(AxisTable x) {
        StringBuilder all = new StringBuilder();
        for (int label = 0; label < 3; label++) {
            all.append(x.turn(label)).append(read(x, label)).append(' ').append(x.times(label)).append(' ');
            all.append(x.value(label)).append(' ').append(x.drop(label)).append(' ');
        }
        return all.toString();
    }

    private static String textErased(AxisTable x) {
        return x.fault() + " " + x.told(12) + " " + x.write('a') + " " + x.erase() + " " + x.write('a');
    }

    private static String textDone(AxisTable x) {
        String answers = x.axis() + " " + x.back(0) + " " + x.back(1) + " " + x.turn(0) + " " + x.turn(2) + " ";
        return answers + toldAndRuns(x);
    }

    private static String undone(AxisTable x) {
        StringBuilder all = new StringBuilder();
        for (int k = 0; k < 9; k++) {
            all.append(x.undo()).append(' ').append(standOf(x)).append(' ').append(x.told(8)).append(' ');
        }
        return all.append(toldAndRuns(x)).toString();
    }

    private static String backTo0(AxisTable x) {
        return x.back(0) + " " + x.undo() + " " + toldAndRuns(x);
    }

    private static String backTo1(AxisTable x) {
        return x.back(1) + " " + x.undo() + " " + toldAndRuns(x);
    }

    private static String movedOn(AxisTable x) {
        return x.move(11) + " " + x.move(3) + " " + x.move(19) + " " + x.run(1, 1, -9) + " " + toldAndRuns(x);
    }

    private static void compareSights(String call, ToIntFunction<AxisTable> made, Function<AxisTable, String> sight) {
        AxisTable without = new AxisTable();
        ahead.accept(without);
        AxisTable with = new AxisTable();
        ahead.accept(with);
        made.applyAsInt(with);
        due("what is seen behind " + call, sight.apply(with), sight.apply(without));
    }

    /** The call answers as due, and changes nothing. */
    private static void still(String call, ToIntFunction<AxisTable> made, int want) {
        AxisTable x = new AxisTable();
        ahead.accept(x);
        due(call, made.applyAsInt(x), want);
        due(call + " again", made.applyAsInt(x), want);
        compareSights(call, made, RefusalsTest::toldAndRuns);
        compareSights(call, made, RefusalsTest::figures);
        compareSights(call, made, RefusalsTest::labels);
        compareSights(call, made, RefusalsTest::textErased);
        compareSights(call, made, RefusalsTest::textDone);
        compareSights(call, made, RefusalsTest::undone);
        compareSights(call, made, RefusalsTest::backTo0);
        compareSights(call, made, RefusalsTest::backTo1);
        compareSights(call, made, RefusalsTest::movedOn);
    }

    // ---- what is done ahead

    /** Much of everything: runs, moves, eight to undo, 0 kept, labels 0 full, 1 missing, 2 empty, a text with a fault. */
    private static void busy(AxisTable x) {
        say(x, "axis 4 25;up 9 5 - 8 3;down 2 - 5 - 12 3");
        x.axis();
        x.move(60);
        x.keep(0);
        for (int err = 1; err <= 7; err++) {
            x.run(2, 1, err);
        }
        x.clear(3, 0);
        x.move(33);
        spell(x, 0, "abcdefghijklmnopqrstuvwx");
        x.label(2);
        say(x, "axis 2 10;at 0 up 7;left");
    }

    /** A text of 200 letters that has no fault, nothing to undo, 1 kept, labels of words and numbers. */
    private static void fullText(AxisTable x) {
        x.move(40);
        x.keep(1);
        x.move(8);
        x.back(1);
        spell(x, 0, "down");
        spell(x, 1, "-12");
        spell(x, 2, "0:+0;1");
        say(x, "at 1 up 17;axis 3 30;down 1 2 3" + " ".repeat(169));
    }

    /** Were these not as said, what is refused below would be refused for another reason. */
    private static void asSaid(AxisTable x) {
        busy(x);
        due("points", x.told(0), 4);
        due("place", x.told(3), 33);
        due("runs", x.told(8), 12);
        due("to undo", x.told(11), 8);
        due("letters of labels", x.told(10), 24);
        due("text", x.told(12), 24);
        AxisTable full = new AxisTable();
        fullText(full);
        due("place", full.told(3), 40);
        due("to undo", full.told(11), 0);
        due("text", full.told(12), 200);
    }

    private static void told() {
        for (int letter : new int[] {-1, 256, LEAST, MOST}) {
            still("write(" + letter + ")", x -> x.write(letter), OUTSIDE);
        }
        still("fault", AxisTable::fault, 20);
        still("axis with a fault", AxisTable::axis, NOT);
    }

    private static void toldFull() {
        still("write, full", x -> x.write('a'), FULL);
        still("write(0), full", x -> x.write(0), FULL);
        still("write(255), full", x -> x.write(255), FULL);
        still("write(-1), full", x -> x.write(-1), OUTSIDE);
        still("write(256), full", x -> x.write(256), OUTSIDE);
        still("fault", AxisTable::fault, -1);
    }

    private static void toldAtFirst() {
        still("axis, empty", AxisTable::axis, NOT);
        still("erase, empty", AxisTable::erase, 0);
        still("fault, empty", AxisTable::fault, 0);
        still("undo", AxisTable::undo, NOT);
        still("back(0)", x -> x.back(0), NOT);
        still("back(1)", x -> x.back(1), NOT);
        still("clear", x -> x.clear(0, 0), NOT);
        still("move(0)", x -> x.move(0), NOT);
    }

    private static void measured() {
        for (int point : new int[] {-1, 4, LEAST, MOST}) {
            still("run(" + point + ", 0, 1)", x -> x.run(point, 0, 1), UNKNOWN);
            still("run(" + point + ", 2, 1)", x -> x.run(point, 2, 1), UNKNOWN);
            still("run(" + point + ", 0, 41)", x -> x.run(point, 0, 41), UNKNOWN);
            still("merged(" + point + ", 0, 1)", x -> x.merged(point, 0, 1), UNKNOWN);
            still("merged(" + point + ", 2, 41)", x -> x.merged(point, 2, 41), UNKNOWN);
            still("clear(" + point + ", 0)", x -> x.clear(point, 0), UNKNOWN);
            still("clear(" + point + ", 2)", x -> x.clear(point, 2), UNKNOWN);
            still("runAt(" + point + ", 0, 0)", x -> x.runAt(point, 0, 0), UNKNOWN);
            still("runAt(" + point + ", 2, -1)", x -> x.runAt(point, 2, -1), UNKNOWN);
            still("point(" + point + ", 0, 0)", x -> x.point(point, 0, 0), UNKNOWN);
            still("point(" + point + ", 7, 2)", x -> x.point(point, 7, 2), UNKNOWN);
            still("table(" + point + ", 0)", x -> x.table(point, 0), UNKNOWN);
            still("table(" + point + ", 3)", x -> x.table(point, 3), UNKNOWN);
        }
        for (int way : new int[] {-1, 2, LEAST, MOST}) {
            still("run(0, " + way + ", 1)", x -> x.run(0, way, 1), OUTSIDE);
            still("merged(0, " + way + ", 1)", x -> x.merged(0, way, 1), OUTSIDE);
            still("clear(0, " + way + ")", x -> x.clear(0, way), OUTSIDE);
            still("runAt(0, " + way + ", 0)", x -> x.runAt(0, way, 0), OUTSIDE);
            still("runAt(0, " + way + ", 9)", x -> x.runAt(0, way, 9), OUTSIDE);
            still("play(" + way + ")", x -> x.play(way), OUTSIDE);
            still("point(0, 0, " + way + ")", x -> x.point(0, 0, way), OUTSIDE);
        }
        for (int err : new int[] {-41, 41, LEAST, MOST}) {
            still("run(3, 1, " + err + ")", x -> x.run(3, 1, err), OUTSIDE);
            still("merged(3, 1, " + err + ")", x -> x.merged(3, 1, err), OUTSIDE);
        }
        still("clear, none there", x -> x.clear(3, 0), NOT);
    }

    private static void asked() {
        for (int what : new int[] {-1, 7, LEAST, MOST}) {
            still("point(0, " + what + ", 0)", x -> x.point(0, what, 0), OUTSIDE);
            still("point(0, " + what + ", 2)", x -> x.point(0, what, 2), OUTSIDE);
        }
        for (int what : new int[] {-1, 3, LEAST, MOST}) {
            still("table(0, " + what + ")", x -> x.table(0, what), OUTSIDE);
        }
        for (int what : new int[] {-1, 13, LEAST, MOST}) {
            still("told(" + what + ")", x -> x.told(what), OUTSIDE);
        }
        for (int k : new int[] {-1, LEAST}) {
            still("runAt(0, 0, " + k + ")", x -> x.runAt(0, 0, k), OUTSIDE);
            still("sheet(" + k + ")", x -> x.sheet(k), OUTSIDE);
        }
        still("runAt, none", x -> x.runAt(2, 1, 6), NONE);
        still("sheet, beyond", x -> x.sheet(99), NONE);
        for (int k : new int[] {-1, 2, LEAST, MOST}) {
            still("keep(" + k + ")", x -> x.keep(k), UNKNOWN);
            still("back(" + k + ")", x -> x.back(k), UNKNOWN);
        }
        still("back(1)", x -> x.back(1), NOT);
    }

    private static void moved() {
        for (int place : new int[] {-1, 76, LEAST, MOST}) {
            still("move(" + place + ")", x -> x.move(place), OUTSIDE);
            still("countOf(" + place + ")", x -> x.countOf(place), OUTSIDE);
        }
        still("move to where it stands", x -> x.move(33), NOT);
        for (int count : new int[] {-201, 2001, LEAST, MOST}) {
            still("placeOf(" + count + ")", x -> x.placeOf(count), OUTSIDE);
        }
    }

    private static void noSuchLabel() {
        for (int label : new int[] {-1, 3, LEAST, MOST}) {
            still("label(" + label + ")", x -> x.label(label), UNKNOWN);
            still("insert(" + label + ", 0, 'a')", x -> x.insert(label, 0, 'a'), UNKNOWN);
            still("insert(" + label + ", -1, 31)", x -> x.insert(label, -1, 31), UNKNOWN);
            still("cut(" + label + ", 0, 0)", x -> x.cut(label, 0, 0), UNKNOWN);
            still("cut(" + label + ", 2, 1)", x -> x.cut(label, 2, 1), UNKNOWN);
            still("join(" + label + ", 0)", x -> x.join(label, 0), UNKNOWN);
            still("join(0, " + label + ")", x -> x.join(0, label), UNKNOWN);
            still("join(1, " + label + ")", x -> x.join(1, label), UNKNOWN);
            still("join(" + label + ", 1)", x -> x.join(label, 1), UNKNOWN);
            still("join(" + label + ", " + label + ")", x -> x.join(label, label), UNKNOWN);
            still("turn(" + label + ")", x -> x.turn(label), UNKNOWN);
            still("letter(" + label + ", 0)", x -> x.letter(label, 0), UNKNOWN);
            still("letter(" + label + ", -1)", x -> x.letter(label, -1), UNKNOWN);
            still("compare(" + label + ", 0)", x -> x.compare(label, 0), UNKNOWN);
            still("compare(0, " + label + ")", x -> x.compare(0, label), UNKNOWN);
            still("compare(1, " + label + ")", x -> x.compare(1, label), UNKNOWN);
            still("compare(" + label + ", 1)", x -> x.compare(label, 1), UNKNOWN);
            still("times(" + label + ")", x -> x.times(label), UNKNOWN);
            still("word(" + label + ")", x -> x.word(label), UNKNOWN);
            still("value(" + label + ")", x -> x.value(label), UNKNOWN);
            still("drop(" + label + ")", x -> x.drop(label), UNKNOWN);
        }
    }

    /** Of the busy object label 1 is missing, 0 is full, 2 is empty. */
    private static void missingLabel() {
        still("insert, missing", x -> x.insert(1, 0, 'a'), NULL);
        still("insert, missing, no such place", x -> x.insert(1, 1, 'a'), NULL);
        still("insert, missing, no such place", x -> x.insert(1, -1, 'a'), NULL);
        still("cut, missing", x -> x.cut(1, 0, 0), NULL);
        still("cut, missing, no span", x -> x.cut(1, 1, 0), NULL);
        still("join, the first missing", x -> x.join(1, 2), NULL);
        still("join, the other missing", x -> x.join(2, 1), NULL);
        still("join, both missing", x -> x.join(1, 1), NULL);
        still("join, the other missing, no room", x -> x.join(0, 1), NULL);
        still("turn, missing", x -> x.turn(1), NULL);
        still("letter, missing", x -> x.letter(1, 0), NULL);
        still("letter, missing, no such place", x -> x.letter(1, -1), NULL);
        still("compare, the first missing", x -> x.compare(1, 2), NULL);
        still("compare, the other missing", x -> x.compare(2, 1), NULL);
        still("compare, both missing", x -> x.compare(1, 1), NULL);
        still("times, missing", x -> x.times(1), NULL);
        still("word, missing", x -> x.word(1), NULL);
        still("value, missing: no number either", x -> x.value(1), NULL);
        still("drop, missing", x -> x.drop(1), NULL);
    }

    private static void labelAsItIs() {
        for (int letter : new int[] {31, 127, -1, 288, LEAST, MOST}) {
            still("insert of " + letter, x -> x.insert(2, 0, letter), OUTSIDE);
            still("insert of " + letter + ", missing", x -> x.insert(1, 0, letter), OUTSIDE);
            still("insert of " + letter + ", no such place", x -> x.insert(2, 1, letter), OUTSIDE);
            still("insert of " + letter + ", no room", x -> x.insert(0, 0, letter), OUTSIDE);
        }
        for (int place : new int[] {-1, 25, LEAST, MOST}) {
            still("insert at " + place + ", no room", x -> x.insert(0, place, 'a'), INDEX);
            still("insert at " + place, x -> x.insert(2, place, 'a'), INDEX);
            still("letter at " + place, x -> x.letter(0, place), INDEX);
            still("cut from " + place, x -> x.cut(0, place, 3), INDEX);
            still("cut to " + place, x -> x.cut(0, 3, place), INDEX);
            still("cut from and to " + place, x -> x.cut(0, place, place), INDEX);
        }
        still("insert behind an empty one", x -> x.insert(2, 1, 'a'), INDEX);
        still("letter 24 of 24", x -> x.letter(0, 24), INDEX);
        still("letter of an empty one", x -> x.letter(2, 0), INDEX);
        still("cut from behind to ahead", x -> x.cut(0, 1, 0), INDEX);
        still("cut from behind to ahead", x -> x.cut(0, 24, 23), INDEX);
        still("cut from most to least", x -> x.cut(0, MOST, LEAST), INDEX);
        still("cut from least to most", x -> x.cut(0, LEAST, MOST), INDEX);
        still("insert ahead, no room", x -> x.insert(0, 0, 'a'), ROOM);
        still("insert behind, no room", x -> x.insert(0, 24, 'a'), ROOM);
        still("join with itself, no room", x -> x.join(0, 0), ROOM);
        still("value of letters", x -> x.value(0), NUMBER);
        still("value of none", x -> x.value(2), NUMBER);
        still("word of letters", x -> x.word(0), NONE);
        still("word of none", x -> x.word(2), NONE);
        still("cut of no letters", x -> x.cut(0, 24, 24), 24);
        still("join of none", x -> x.join(0, 2), 24);
        still("label, empty already", x -> x.label(2), 0);
    }

    private static void onlyAsked() {
        still("worst", AxisTable::worst, 0);
        still("merged", x -> x.merged(1, 0, 40), 1);
        still("runAt", x -> x.runAt(0, 0, 0), NONE);
        still("point", x -> x.point(1, 3, 0), 20);
        still("table", x -> x.table(2, 0), 40);
        still("play", x -> x.play(1), 1);
        still("countOf", x -> x.countOf(17), 17);
        still("placeOf", x -> x.placeOf(17), 17);
        still("placeOf, none", x -> x.placeOf(41), NONE);
        still("told", x -> x.told(6), 40);
        still("sheet", x -> x.sheet(15), 'p');
        still("letter", x -> x.letter(1, 2), '2');
        still("compare", x -> x.compare(0, 1), 2);
        still("times", x -> x.times(2), 1);
        still("word", x -> x.word(0), 1);
        still("value", x -> x.value(1), -12);
        still("undo behind back", AxisTable::undo, NOT);
        still("move to where it stands", x -> x.move(40), NOT);
    }

    public static void main(String[] args) {
        check("what is done ahead", RefusalsTest::asSaid);
        check("at first", x -> toldAtFirst());
        ahead = RefusalsTest::busy;
        check("what is told", x -> told());
        check("what is measured", x -> measured());
        check("what is asked and kept", x -> asked());
        check("moves", x -> moved());
        check("no such label", x -> noSuchLabel());
        check("a missing label", x -> missingLabel());
        check("a label as it is", x -> labelAsItIs());
        ahead = RefusalsTest::fullText;
        check("a full text", x -> toldFull());
        check("what is only asked", x -> onlyAsked());
        finish();
    }
}
