/** The document's "Terms", section by section: for each sentence that names a bound one test, on either side of it. */
public final class TermsTest extends Checks {
    // ---- section 1: points, runs, the text

    private static void threePointsAtFirst(AxisTable x) {
        due("told(0)", x.told(0), 3);
        due("table(2, 0)", x.table(2, 0), 40);
        due("table(3, 0)", x.table(3, 0), UNKNOWN);
        due("table(-1, 0)", x.table(-1, 0), UNKNOWN);
    }

    private static void pointsTwoToEight(AxisTable x) {
        faultAt("axis 0 20", 5);
        faultAt("axis 1 20", 5);
        faultAt("axis 9 20", 5);
        faultAt("axis 10 20", 5);
        for (int n = 2; n <= 8; n++) {
            faultAt("axis " + n + " 20", -1);
            AxisTable y = told("axis " + n + " 20");
            due("told(0)", y.told(0), n);
            due("the last point", y.table(n - 1, 0), 20 * (n - 1));
            due("one behind it", y.table(n, 0), UNKNOWN);
            due("one ahead of the first", y.table(-1, 0), UNKNOWN);
        }
    }

    private static void stepTwentyAtFirst(AxisTable x) {
        due("told(1)", x.told(1), 20);
        due("wanted of point 1", fraction(x, 1, 3), "20/1");
        due("wanted of point 2", fraction(x, 2, 3), "40/1");
    }

    private static void stepTenTo99(AxisTable x) {
        faultAt("axis 2 0", 7);
        faultAt("axis 2 9", 7);
        faultAt("axis 2 09", 7);
        faultAt("axis 2 10", -1);
        faultAt("axis 2 99", -1);
        faultAt("axis 2 100", 7);
        faultAt("axis 2 010", 7);
        due("least step", told("axis 2 10").told(1), 10);
        due("most step", told("axis 2 99").told(1), 99);
    }

    private static void nominalPlaces(AxisTable x) {
        AxisTable least = told("axis 2 10");
        due("nominal of point 1", fraction(least, 1, 3), "10/1");
        due("the last place", least.countOf(10), 10);
        due("one behind it", least.countOf(11), OUTSIDE);
        AxisTable most = told("axis 8 99");
        due("nominal of point 7", fraction(most, 7, 3), "693/1");
        due("the last place", most.countOf(693), 693);
        due("one behind it", most.countOf(694), OUTSIDE);
    }

    private static void errsFortyEitherWay(AxisTable x) {
        due("run 40", x.run(0, 0, 40), 1);
        due("run -40", x.run(0, 0, -40), 2);
        due("run 41", x.run(0, 0, 41), OUTSIDE);
        due("run -41", x.run(0, 0, -41), OUTSIDE);
        due("runs", runsOf(x, 0, 0), "40 -40");
        due("merged 40: as great as point 1, and 1 more", x.merged(2, 0, 40), 21);
        due("merged -40", x.merged(2, 0, -40), 60);
        due("merged 41", x.merged(2, 0, 41), OUTSIDE);
        due("merged -41", x.merged(2, 0, -41), OUTSIDE);
        faultAt("at 0 up 40", -1);
        faultAt("at 0 up 41", 8);
        faultAt("at 0 up - 40", -1);
        faultAt("at 0 up - 41", 10);
        faultAt("up 40 40 40", -1);
        faultAt("up 40 40 41", 9);
        faultAt("down - 40 - 40 - 40", -1);
        faultAt("down - 40 - 40 - 41", 17);
    }

    private static void waysNoughtAndOne(AxisTable x) {
        due("way 0", x.run(0, 0, 1), 1);
        due("way 1", x.run(0, 1, 2), 1);
        due("way 2", x.run(0, 2, 3), OUTSIDE);
        due("way -1", x.run(0, -1, 3), OUTSIDE);
        due("from below", runsOf(x, 0, 0), "1");
        due("from above", runsOf(x, 0, 1), "2");
    }

    private static void sixRunsAtMost(AxisTable x) {
        for (int err = 1; err <= 6; err++) {
            due("run " + err, x.run(1, 0, err), err);
        }
        due("six", runsOf(x, 1, 0), "1 2 3 4 5 6");
        due("the seventh", x.run(1, 0, 7), 6);
        due("the oldest went", runsOf(x, 1, 0), "2 3 4 5 6 7");
        due("the eighth", x.run(1, 0, 8), 6);
        due("the oldest went", runsOf(x, 1, 0), "3 4 5 6 7 8");
        due("told(8)", x.told(8), 6);
    }

    private static void sixOfEachPointAndWay(AxisTable x) {
        done(x, "axis 8 10");
        for (int k = 0; k < 6; k++) {
            done(x, "up 1 2 3 4 5 6 7 " + (k + 8) + ";down " + (k + 1) + "-2-3-4-5-6-7-8");
        }
        due("six of all sixteen", x.told(8), 96);
        done(x, "up 9 9 9 9 9 9 9 9");
        due("six of all sixteen yet", x.told(8), 96);
        for (int point = 0; point < 8; point++) {
            int err = point + 1;
            due("from below", runsOf(x, point, 0), point == 7 ? "9 10 11 12 13 9" : (err + " ").repeat(5) + "9");
            due("from above", runsOf(x, point, 1), point == 0 ? "1 2 3 4 5 6" : rowOf("-" + err, " ", 6));
        }
    }

    /** The run that goes is of that point and way alone, be it the first of all sixteen or the last. */
    private static void theOldestOfOneAlone(AxisTable x) {
        done(x, "axis 8 10;up 1 2 3 4 5 6 7 8;up 11 12 13 14 15 16 17 18;down 21 22 23 24 25 26 27 28;down 1 2 3 4 5 6 7 8");
        int[][] slots = {{7, 1}, {7, 0}, {0, 1}, {0, 0}, {4, 1}};
        for (int[] slot : slots) {
            for (int k = 0; k < 6; k++) {
                x.run(slot[0], slot[1], 30 + k);
            }
            due("six", runsOf(x, slot[0], slot[1]), "30 31 32 33 34 35");
        }
        due("told(8)", x.told(8), 32 + 5 * 4);
        for (int point = 1; point < 7; point++) {
            due("below stays", runsOf(x, point, 0), (point + 1) + " " + (point + 11));
            due("above stays", runsOf(x, point, 1), point == 4 ? "30 31 32 33 34 35" : (point + 21) + " " + (point + 1));
        }
    }

    private static void meanOfNoneIsNought(AxisTable x) {
        due("none", fraction(x, 0, 0), "0/1");
        due("none", fraction(x, 0, 1), "0/1");
        x.run(0, 0, 9);
        due("one", fraction(x, 0, 0), "9/1");
        due("none the other way", fraction(x, 0, 1), "0/1");
        due("none at the next", fraction(x, 1, 0), "0/1");
        x.clear(0, 0);
        due("none again", fraction(x, 0, 0), "0/1");
    }

    private static void meanIsAFraction(AxisTable x) {
        String[] above = {"1/1", "1/2", "1/3", "1/4", "1/5", "1/6"};
        for (int k = 0; k < 6; k++) {
            x.run(0, 0, k == 0 ? 1 : 0);
            x.run(0, 1, k == 0 ? -1 : 0);
            due("mean", fraction(x, 0, 0), above[k]);
            due("mean below 0", fraction(x, 0, 1), "-" + above[k]);
        }
        x.run(0, 0, 0);
        due("the 1 went", fraction(x, 0, 0), "0/1");
    }

    private static void textOfTwoHundred(AxisTable x) {
        for (int k = 1; k <= 200; k++) {
            due("write", x.write(k <= 8 ? "up 1 2 3".charAt(k - 1) : ' '), k);
        }
        due("one more", x.write(' '), FULL);
        due("one more", x.write('4'), FULL);
        due("told(12)", x.told(12), 200);
        due("fault", x.fault(), -1);
        due("axis", x.axis(), 1);
        due("the last", x.runAt(2, 0, 0), 3);
        due("there is room again", x.write('u'), 1);
    }

    private static void textReadToItsTwoHundredthLetter(AxisTable x) {
        faultAt("up 1 2" + " ".repeat(193) + "3", -1);
        faultAt("up 1 2" + " ".repeat(194), 200);
        faultAt("up 1 2 3" + " ".repeat(191) + ";", 200);
        faultAt("up 1 2 3" + " ".repeat(191) + "4", 199);
        faultAt("z".repeat(200), 0);
        faultAt(";".repeat(200), 0);
        faultAt("7".repeat(200), 0);
    }

    private static void clausesTwentyFourAtMost(AxisTable x) {
        String most = rowOf("at0up1", ";", 24);
        faultAt(most, -1);
        say(x, most);
        due("axis of 24", x.axis(), 24);
        due("six runs", x.told(8), 6);
        // Of a text with one more the ; is the first that cannot stand: nothing but the end can be behind the 24th.
        faultAt(most + ";at0up1", most.length());
        faultAt(most + ";", most.length());
        faultAt(most + "  ;at0up1", most.length() + 2);
        faultAt(most + "  ", -1);
        faultAt(rowOf("at0up1", ";", 23), -1);
        faultAt(rowOf("at0up1", ";", 23) + ";", 23 * 7);
    }

    private static void clausesOneAtLeast(AxisTable x) {
        faultAt("", 0);
        faultAt(" ", 1);
        faultAt("     ", 5);
        due("axis of none", x.axis(), NOT);
        say(x, "at 0 up 1");
        due("axis of one", x.axis(), 1);
    }

    private static void clausesWithSemicolonsBetween(AxisTable x) {
        faultAt("up 1 2 3;down 1 2 3", -1);
        faultAt(";up 1 2 3", 0);
        faultAt("up 1 2 3;", 9);
        faultAt("up 1 2 3; ", 10);
        faultAt("up 1 2 3;;down 1 2 3", 9);
        faultAt("up 1 2 3 down 1 2 3", 9);
        faultAt("up 1 2 3,down 1 2 3", 8);
        faultAt("up 1 2 3:down 1 2 3", 8);
        faultAt("up 1 2 3<down 1 2 3", 8);
        faultAt("up 1 2 3.", 8);
        faultAt(";", 0);
    }

    private static void clauseBeginsWithItsWord(AxisTable x) {
        faultAt("left 1", 0);
        faultAt("1 up", 0);
        faultAt("- up 1 2 3", 0);
        faultAt("u 1 2 3", 0);
        faultAt("upp 1 2 3", 0);
        faultAt("a 0 up 1", 0);
        faultAt("att 0 up 1", 0);
        faultAt("axi 2 10", 0);
        faultAt("axiss 2 10", 0);
        faultAt("dow 1 2 3", 0);
        faultAt("downs 1 2 3", 0);
        faultAt("at 0 up 1;left 1", 10);
        faultAt("at 0 up 1; 1", 11);
    }

    private static void axisTakesTwoNumbers(AxisTable x) {
        faultAt("axis", 4);
        faultAt("axis ", 5);
        faultAt("axis;up 1 2 3", 4);
        faultAt("axis 3", 6);
        faultAt("axis 3;up 1 2 3", 6);
        faultAt("axis 3 20", -1);
        faultAt("axis 3 20 20", 10);
        faultAt("axis 3 20 up", 10);
        faultAt("axis - 3 20", 5);
        faultAt("axis 3 - 20", 7);
        faultAt("axis up 20", 5);
        faultAt("axis 3 at", 7);
    }

    private static void axisIsAllAsAtFirst(AxisTable x) {
        done(x, "up 1 2 3;down 4 5 6");
        due("runs", x.told(8), 6);
        done(x, "axis 3 20");
        due("no runs", x.told(8), 0);
        due("sheet", sheetOf(x), "0:+0;1:+0;2:+0;p0");
        done(x, "at 2 up 7;axis 3 20;at 0 up 8");
        due("only what was told behind it", x.told(8), 1);
        due("runs", runsOf(x, 0, 0), "8");
        done(x, "axis 2 20");
        done(x, "axis 3 20");
        due("none from a longer axis of before", x.told(8), 0);
    }

    private static void asManyErrsAsPoints(AxisTable x) {
        faultAt("up", 2);
        faultAt("up 1 2", 6);
        faultAt("up 1 2;", 6);
        faultAt("up 1 2 3", -1);
        faultAt("up 1 2 3 4", 9);
        faultAt("up 1 2 3 -", 9);
        faultAt("up 1 2 3 up", 9);
        faultAt("down", 4);
        faultAt("down 1 2", 8);
        faultAt("down 1 2 3", -1);
        faultAt("down 1 2 3 4", 11);
        faultAt("axis 2 10;up 1", 14);
        faultAt("axis 2 10;up 1 2", -1);
        faultAt("axis 2 10;up 1 2 3", 17);
        faultAt("axis 8 10;up 1 2 3 4 5 6 7", 26);
        faultAt("axis 8 10;up 1 2 3 4 5 6 7 8", -1);
        faultAt("axis 8 10;up 1 2 3 4 5 6 7 8 9", 29);
        faultAt("axis 2 10;axis 4 10;down 1 2 3", 30);
        faultAt("axis 2 10;axis 4 10;down 1 2 3 4", -1);
    }

    /** How many points there are when a text is begun counts, not how many there were at first. */
    private static void asManyErrsAsPointsThereAre(AxisTable x) {
        done(x, "axis 5 10");
        say(x, "up 1 2 3");
        due("fault", x.fault(), 8);
        say(x, " 4 5");
        due("fault", x.fault(), -1);
        say(x, " 6");
        due("fault", x.fault(), 13);
        x.erase();
        say(x, "at 4 up 1");
        due("the last point", x.fault(), -1);
        x.erase();
        say(x, "at 5 up 1");
        due("one behind it", x.fault(), 3);
    }

    private static void errOfOneOrTwoTokens(AxisTable x) {
        faultAt("at 0 up 0", -1);
        faultAt("at 0 up - 0", -1);
        faultAt("at 0 up -0", -1);
        faultAt("at 0 up   -   7", -1);
        faultAt("at 0 up -", 9);
        faultAt("at 0 up - ", 10);
        faultAt("at 0 up -;", 9);
        faultAt("at 0 up - -1", 10);
        faultAt("at 0 up --1", 9);
        faultAt("at 0 up - up", 10);
        faultAt("at 0 up +1", 8);
        faultAt("at 0 up 1-", 9);
        faultAt("at 0 up .1", 8);
        done(x, "at 0 up - 0;at 0 up 0;at 0 up -7;at 0 up - 40;at 0 up 40");
        due("runs", runsOf(x, 0, 0), "0 0 -7 -40 40");
        done(x, "axis 3 20;up -1-2-3;down - 4 5 - 6");
        due("runs", runsOf(x, 0, 0) + runsOf(x, 1, 0) + runsOf(x, 2, 0), "-1-2-3");
        due("runs", runsOf(x, 0, 1) + " " + runsOf(x, 1, 1) + " " + runsOf(x, 2, 1), "-4 5 -6");
    }

    private static void atTakesPointWayErr(AxisTable x) {
        faultAt("at", 2);
        faultAt("at;", 2);
        faultAt("at up 1", 3);
        faultAt("at - 0 up 1", 3);
        faultAt("at 0", 4);
        faultAt("at 0;", 4);
        faultAt("at 0 1", 5);
        faultAt("at 0 - 1", 5);
        faultAt("at 0 axis 1", 5);
        faultAt("at 0 at 1", 5);
        faultAt("at 0 u 1", 5);
        faultAt("at 0 ups 1", 5);
        faultAt("at 0 up", 7);
        faultAt("at 0 down", 9);
        faultAt("at 0 up 1", -1);
        faultAt("at 0 down 1", -1);
        faultAt("at 0 up 1 2", 10);
        faultAt("at 0 up 1 up", 10);
        done(x, "at 0 up 1;at 2 down 2");
        due("from below", runsOf(x, 0, 0), "1");
        due("from above", runsOf(x, 2, 1), "2");
        due("of all", x.told(8), 2);
    }

    private static void atOnePointOfThoseThereAre(AxisTable x) {
        faultAt("at 0 up 1", -1);
        faultAt("at 2 up 1", -1);
        faultAt("at 3 up 1", 3);
        faultAt("at 99 up 1", 3);
        faultAt("axis 2 10;at 1 up 1", -1);
        faultAt("axis 2 10;at 2 up 1", 13);
        faultAt("axis 8 10;at 7 up 1", -1);
        faultAt("axis 8 10;at 8 up 1", 13);
        faultAt("axis 8 10;at 07 up 1", -1);
        faultAt("axis 8 10;at 007 up 1", 13);
    }

    private static void theOldestGoesInTextsToo(AxisTable x) {
        done(x, "up 1 1 1;up 2 2 2;up 3 3 3;up 4 4 4;up 5 5 5;up 6 6 6;up 7 7 7");
        due("up", runsOf(x, 2, 0), "2 3 4 5 6 7");
        done(x, "down 1 1 1;down 2 2 2;down 3 3 3;down 4 4 4;down 5 5 5;down 6 6 6");
        due("down, six", runsOf(x, 0, 1), "1 2 3 4 5 6");
        done(x, "down 7 7 7");
        due("down, seven", runsOf(x, 0, 1), "2 3 4 5 6 7");
        done(x, "at 1 up 8;at 1 down 9");
        due("at, up", runsOf(x, 1, 0), "3 4 5 6 7 8");
        due("at, down", runsOf(x, 1, 1), "3 4 5 6 7 9");
        due("the others stay", runsOf(x, 0, 0), "2 3 4 5 6 7");
        due("of all", x.told(8), 36);
    }

    private static void smallLettersAToZ(AxisTable x) {
        faultAt("upa 1 2 3", 0);
        faultAt("upz 1 2 3", 0);
        faultAt("up` 1 2 3", 2);
        faultAt("up{ 1 2 3", 2);
        faultAt("upA 1 2 3", 2);
        faultAt("Up 1 2 3", 0);
        faultAt("UP 1 2 3", 0);
        faultAt("at 0 upz 1", 5);
        faultAt("at 0 up{1", 7);
        faultAt("at 0 up`1", 7);
        faultAt("at 0 zup 1", 5);
        faultAt("at 0 {up 1", 5);
        faultAt("up" + (char) 233 + " 1 2 3", 2);
        faultAt("at 0 u p 1", 5);
    }

    private static void digitsNoughtToNine(AxisTable x) {
        faultAt("at 0 up 09", -1);
        faultAt("at 0 up 10", -1);
        faultAt("at 0 up 1/", 9);
        faultAt("at 0 up 1:", 9);
        faultAt("at 0 up /1", 8);
        faultAt("at 0 up :1", 8);
        faultAt("at 0 up " + (char) 178, 8);
        done(x, "at 0 up 09;at 1 up 10;at 2 up 39");
        due("runs", runsOf(x, 0, 0) + " " + runsOf(x, 1, 0) + " " + runsOf(x, 2, 0), "9 10 39");
    }

    private static void numbersOfOneOrTwoDigits(AxisTable x) {
        faultAt("at 0 up 7", -1);
        faultAt("at 0 up 07", -1);
        faultAt("at 0 up 007", 8);
        faultAt("at 0 up 00", -1);
        faultAt("at 0 up 000", 8);
        faultAt("at 000 up 7", 3);
        faultAt("axis 02 10", -1);
        faultAt("axis 002 10", 5);
        faultAt("axis 2 010", 7);
        faultAt("at 0 up - 007", 10);
        // 2 to the 32nd and 10 to the 20th, and 1 more of each: in an int they would be 0, 1 or the like.
        faultAt("at 0 up 4294967296", 8);
        faultAt("at 0 up 4294967297", 8);
        faultAt("at 0 up 100000000000000000000", 8);
        faultAt("axis 4294967298 10", 5);
        faultAt("at 0 up " + "0".repeat(192), 8);
    }

    private static void blanksBetween(AxisTable x) {
        faultAt("up 1 2 3", -1);
        faultAt("up1 2 3", -1);
        faultAt("   up   1   2   3   ", -1);
        faultAt("up 1 2 3 ; up 1 2 3", -1);
        faultAt("up 12 3", 7);
        faultAt("up 1 23", 7);
        faultAt("at0up1;at0down1", -1);
        faultAt("axis2 10", -1);
        faultAt("axis210", 4);
        for (int letter : new int[] {0, 9, 10, 13, 31, 33, 95, 127, 160, 255}) {
            faultAt("up" + (char) letter + "1 2 3", 2);
            faultAt("up 1 2 3" + (char) letter, 8);
            faultAt((char) letter + "up 1 2 3", 0);
        }
    }

    private static void whatWasThereStays(AxisTable x) {
        done(x, "axis 2 50;up 1 2;down 3 4");
        done(x, "up 5 6");
        due("points", x.told(0), 2);
        due("step", x.told(1), 50);
        due("runs", runsOf(x, 0, 0) + " " + runsOf(x, 1, 0), "1 5 2 6");
        due("runs", runsOf(x, 0, 1) + " " + runsOf(x, 1, 1), "3 4");
        x.run(0, 1, 7);
        done(x, "at 0 down 8");
        due("a run of a call, too", runsOf(x, 0, 1), "3 7 8");
    }

    private static void faultIsTheFirst(AxisTable x) {
        faultAt("left;right", 0);
        faultAt("up 1 2 41;left", 7);
        faultAt("at 3 at 41", 3);
        faultAt("axis 9 9", 5);
        faultAt("axis 9", 5);
        faultAt("up 41 42 43 44", 3);
        faultAt("axis 2 10;at 0 up 1;at 2 up 1;left", 23);
    }

    private static void faultIsWhereTheTokenBegins(AxisTable x) {
        faultAt("at 0 up 1;  wrong", 12);
        faultAt("up 1 2   345", 9);
        faultAt("up 1 2 3     4", 13);
        faultAt("up 1 2 3!?", 8);
        faultAt("up 1 2 !?", 7);
    }

    /** Each text that is the beginning of a right one has its fault at the end, or at a token that is not whole yet. */
    private static void faultAtTheEndIfItComesTooSoon(AxisTable x) {
        String text = "axis 2 10;up 3 - 4;at 1 down 7";
        int[] want = {0, 0, 0, 0, 4, 5, 6, 7, 7, -1, 10, 10, 12, 13, 14, 15, 16, 17, -1, 19, 19, 21, 22, 23, 24, 24, 24,
            24, 28, 29, -1};
        due("so many", want.length, text.length() + 1);
        for (int length = 0; length <= text.length(); length++) {
            faultAt(text.substring(0, length), want[length]);
        }
    }

    private static void clausesInTheirOrder(AxisTable x) {
        done(x, "up 1 2 3;axis 2 10;up 4 5");
        due("runs", x.told(8), 2);
        due("runs", runsOf(x, 0, 0) + " " + runsOf(x, 1, 0), "4 5");
        done(x, "axis 2 30;axis 4 40");
        due("the last one holds", x.told(0), 4);
        due("the last one holds", x.told(1), 40);
        done(x, "at 0 up 1;at 0 up 2;at 0 up 3");
        due("runs", runsOf(x, 0, 0), "1 2 3");
    }

    private static void atRestBehindThem(AxisTable x) {
        x.move(40);
        x.move(5);
        due("behind two moves", standOf(x), "5 5 1 75 0");
        done(x, "at 0 up 40;at 0 down 40");
        due("at rest, the screw at the count of 0", standOf(x), "0 -40 0 0 1");
        x.move(1);
        x.move(0);
        done(x, "at 0 up 40");
        due("at rest, if the table is as it was, too", standOf(x), "0 -40 0 0 1");
    }

    private static void nothingKeptOrUndoneBehindThem(AxisTable x) {
        x.run(0, 0, 1);
        x.keep(0);
        x.keep(1);
        done(x, "at 0 up 1");
        due("told(11)", x.told(11), 0);
        due("undo", x.undo(), NOT);
        due("back(0)", x.back(0), NOT);
        due("back(1)", x.back(1), NOT);
        due("runs", runsOf(x, 0, 0), "1 1");
    }

    private static void labelsMissingBehindThem(AxisTable x) {
        spell(x, 0, "a");
        spell(x, 1, "up");
        x.label(2);
        done(x, "at 0 up 1");
        for (int label = 0; label < 3; label++) {
            due("letter", x.letter(label, 0), NULL);
        }
        due("told(10)", x.told(10), 0);
        x.label(1);
        due("a new one is empty", read(x, 1), "");
    }

    // ---- section 2: slope, play, table, counts, moves

    private static void slopeOfBothMeans(AxisTable x) {
        due("none", fraction(x, 0, 2), "0/1");
        x.run(0, 0, 1);
        due("of one way", fraction(x, 0, 2), "1/2");
        x.run(0, 1, -1);
        due("of both", fraction(x, 0, 2), "0/1");
        x.run(0, 1, -2);
        due("of means, not of runs", fraction(x, 0, 2), "-1/4");
        AxisTable y = told("up 40 - 40 0;down 40 - 40 0");
        due("most", fraction(y, 0, 2), "40/1");
        due("least", fraction(y, 1, 2), "-40/1");
    }

    private static void playByAllPoints(AxisTable x) {
        due("none", playOf(x), "0/1");
        x.run(0, 0, 1);
        due("points without runs count", playOf(x), "1/3");
        x.run(2, 1, 1);
        due("from above is less", playOf(x), "0/1");
        x.run(1, 1, 1);
        due("below 0", playOf(x), "-1/3");
        due("most", playOf(told("up 40 40 40;down - 40 - 40 - 40")), "80/1");
        due("least", playOf(told("down 40 40 40;up - 40 - 40 - 40")), "-80/1");
        due("of eight", playOf(told("axis 8 10;at 7 up 1")), "1/8");
        due("of two", playOf(told("axis 2 10;at 1 up 1")), "1/2");
    }

    private static void playCountsOf(String text, int want) {
        due("play counts of " + text, told(text).told(2), want);
    }

    private static void playCountsNearest(AxisTable x) {
        playCountsOf("at 0 up 1", 0);
        playCountsOf("at 0 up 2", 1);
        playCountsOf("at 0 up 4", 1);
        playCountsOf("at 0 up 5", 2);
        // 5/12, 7/12; 17/12, 19/12.
        playCountsOf("axis 2 10;at 0 up 1;at 0 up 1;at 0 up 1;at 0 up 1;at 0 up 1;at 0 up 0", 0);
        playCountsOf("axis 2 10;at 0 up 1;at 0 up 1;at 0 up 1;at 0 up 1;at 0 up 1;at 0 up 2", 1);
        playCountsOf("axis 2 10;at 0 up 3;at 0 up 3;at 0 up 3;at 0 up 3;at 0 up 3;at 0 up 2", 1);
        playCountsOf("axis 2 10;at 0 up 3;at 0 up 3;at 0 up 3;at 0 up 3;at 0 up 3;at 0 up 4", 2);
        playCountsOf("up 40 40 40;down - 40 - 40 - 40", 80);
    }

    private static void playCountsOfTwoAsNear(AxisTable x) {
        playCountsOf("axis 2 10;at 0 up 1", 0);
        playCountsOf("axis 2 10;at 0 up 3", 1);
        playCountsOf("axis 2 10;at 0 up 5", 2);
        playCountsOf("axis 2 10;at 0 up 39", 19);
        playCountsOf("axis 8 10;at 0 up 4", 0);
        playCountsOf("axis 8 10;at 0 up 12", 1);
    }

    private static void playCountsNoughtAtLeast(AxisTable x) {
        playCountsOf("axis 2 10;at 0 down 1", 0);
        playCountsOf("axis 2 10;at 0 down 2", 0);
        playCountsOf("axis 2 10;at 0 down 3", 0);
        playCountsOf("at 0 down 1", 0);
        playCountsOf("at 0 down 3", 0);
        playCountsOf("down 40 40 40;up - 40 - 40 - 40", 0);
    }

    private static void wantedIsNominalLessSlope(AxisTable x) {
        AxisTable y = told("up 40 - 40 1;down 40 - 40 0");
        due("below 0", fraction(y, 0, 3), "-40/1");
        due("above", fraction(y, 1, 3), "60/1");
        due("a half", fraction(y, 2, 3), "79/2");
    }

    /** The text tells what point 1 errs; point 0 errs by nothing, so that it wants 0. */
    private static void poolOfTwo(String runs, int size, String mean, String counts) {
        AxisTable y = told("axis 2 10;" + runs);
        due("size for " + runs, tableOf(y, 2), size + " " + size);
        due("first for " + runs, tableOf(y, 1), size == 2 ? "0 0" : "0 1");
        due("mean for " + runs, fraction(y, 1, 4), mean);
        due("table for " + runs, tableOf(y, 0), counts);
    }

    private static void pooledIfNotMore(AxisTable x) {
        poolOfTwo("at 1 up 20", 2, "0/1", "0 1");
        poolOfTwo("at 1 up 19", 1, "1/2", "0 1");
        poolOfTwo("at 1 up 21", 2, "-1/4", "0 1");
        // 1/12 more, 1/12 less: no two means are nearer.
        String fives = "at 1 down 10;at 1 up 10;at 1 up 10;at 1 up 10;at 1 up 10;at 1 up 10;at 1 up ";
        poolOfTwo(fives + "9", 1, "1/12", "0 1");
        poolOfTwo(fives + "10", 2, "0/1", "0 1");
        poolOfTwo(fives + "11", 2, "-1/24", "0 1");
    }

    private static AxisTable wanting(int step, int... wanted) {
        StringBuilder up = new StringBuilder("axis " + wanted.length + " " + step + ";up");
        StringBuilder down = new StringBuilder(";down");
        for (int point = 0; point < wanted.length; point++) {
            int slope = point * step - wanted[point];
            String err = (slope < 0 ? " - " : " ") + Math.abs(slope);
            up.append(err);
            down.append(err);
        }
        return told(up.append(down).toString());
    }

    private static void pools(AxisTable x, String firsts, String sizes, String counts) {
        due("firsts", tableOf(x, 1), firsts);
        due("sizes", tableOf(x, 2), sizes);
        due("table", tableOf(x, 0), counts);
    }

    private static void pooledOnlyWhereNeeded(AxisTable x) {
        pools(wanting(10, 0, 1, 2, 3), "0 1 2 3", "1 1 1 1", "0 1 2 3");
        pools(wanting(10, 0, 15, 10, 30), "0 1 1 3", "1 2 2 1", "0 12 13 30");
        pools(wanting(10, 5, 4, 20, 19), "0 0 2 2", "2 2 2 2", "4 5 19 20");
        pools(wanting(10, 5, 5, 20, 30), "0 0 2 3", "2 2 1 1", "5 6 20 30");
    }

    private static void pooledAsLongAsItIsSo(AxisTable x) {
        AxisTable back = wanting(10, 0, 5, -8);
        pools(back, "0 0 0", "3 3 3", "-1 0 1");
        due("mean", fraction(back, 0, 4), "-1/1");
        AxisTable alike = wanting(10, 5, 15, -5);
        pools(alike, "0 0 0", "3 3 3", "5 6 7");
        AxisTable stops = wanting(10, 4, 15, -5);
        pools(stops, "0 1 1", "1 2 2", "4 5 6");
        AxisTable late = wanting(10, 0, 18, 20, 25, 0);
        pools(late, "0 1 1 1 1", "1 4 4 4 4", "0 16 17 18 19");
        due("mean", fraction(late, 4, 4), "63/4");
    }

    private static void pooledAllEight(AxisTable x) {
        AxisTable like = wanting(10, 35, 35, 35, 35, 35, 35, 35, 35);
        pools(like, "0 0 0 0 0 0 0 0", "8 8 8 8 8 8 8 8", "35 36 37 38 39 40 41 42");
        AxisTable falling = wanting(10, 40, 39, 38, 37, 36, 35, 34, 33);
        due("mean", fraction(falling, 7, 4), "73/2");
        pools(falling, "0 0 0 0 0 0 0 0", "8 8 8 8 8 8 8 8", "36 37 38 39 40 41 42 43");
        AxisTable none = told("axis 8 10");
        pools(none, "0 1 2 3 4 5 6 7", "1 1 1 1 1 1 1 1", "0 10 20 30 40 50 60 70");
    }

    private static void tableOfPoint0(String runs, int want) {
        due("table of " + runs, told("axis 2 50;" + runs).table(0, 0), want);
    }

    private static void tableIsNearest(AxisTable x) {
        tableOfPoint0("at 0 up - 2", 1);
        tableOfPoint0("at 0 up 2", -1);
        // Wanted -5/12, -7/12 and 5/12, 7/12.
        tableOfPoint0("at 0 up 1;at 0 up 1;at 0 up 1;at 0 up 1;at 0 up 1;at 0 up 0", 0);
        tableOfPoint0("at 0 up 1;at 0 up 1;at 0 up 1;at 0 up 1;at 0 up 1;at 0 up 2", -1);
        tableOfPoint0("at 0 up -1;at 0 up -1;at 0 up -1;at 0 up -1;at 0 up -1;at 0 up 0", 0);
        tableOfPoint0("at 0 up -1;at 0 up -1;at 0 up -1;at 0 up -1;at 0 up -1;at 0 up -2", 1);
        tableOfPoint0("at 0 up 40;at 0 down 40", -40);
        tableOfPoint0("at 0 up - 40;at 0 down - 40", 40);
    }

    private static void tableOfTwoAsNear(AxisTable x) {
        tableOfPoint0("at 0 up - 1", 0);
        tableOfPoint0("at 0 up - 3", 1);
        tableOfPoint0("at 0 up 1", -1);
        tableOfPoint0("at 0 up 3", -2);
        due("39/2", told("at 1 up 1").table(1, 0), 19);
        due("41/2", told("at 1 up - 1").table(1, 0), 20);
        due("of a pool, 9/2", wanting(10, 5, 4).table(0, 0), 4);
        due("of a pool, -9/2", wanting(10, -4, -5).table(0, 0), -5);
    }

    private static void tableRisesByOneAtLeast(AxisTable x) {
        String twenty = "axis 3 10;at 0 up - 20;at 0 down - 20;at 1 up - 10;at 1 down - 10;at 1 down - 11;";
        AxisTable pushed = told(twenty + "at 2 up - 1;at 2 down - 1");
        due("wanted", fraction(pushed, 0, 3) + " " + fraction(pushed, 1, 3) + " " + fraction(pushed, 2, 3), "20/1 81/4 21/1");
        pools(pushed, "0 1 2", "1 1 1", "20 21 22");
        pools(told(twenty + "at 2 up - 2;at 2 down - 2"), "0 1 2", "1 1 1", "20 21 22");
        pools(told(twenty + "at 2 up - 3;at 2 down - 3"), "0 1 2", "1 1 1", "20 21 23");
        pools(wanting(10, 5, 5, 6, 7, 40), "0 0 2 3 4", "2 2 1 1 1", "5 6 7 8 40");
        pools(wanting(10, 5, 5, 5, 6, 9), "0 0 0 3 4", "3 3 3 1 1", "5 6 7 8 9");
        pools(wanting(10, -5, -4), "0 1", "1 1", "-5 -4");
    }

    private static void countAtThePoints(AxisTable x) {
        AxisTable y = wanting(20, -6, 20, 33);
        due("the first", y.countOf(0), -6);
        due("the second", y.countOf(20), 20);
        due("the last", y.countOf(40), 33);
        due("ahead of the first", y.countOf(-1), OUTSIDE);
        due("behind the last", y.countOf(41), OUTSIDE);
        due("just ahead of the second", y.countOf(19), 18);
        due("just behind the second", y.countOf(21), 20);
        due("just ahead of the last", y.countOf(39), 32);
        AxisTable two = wanting(99, -40, 139);
        due("the first of two", two.countOf(0), -40);
        due("the last of two", two.countOf(99), 139);
    }

    private static void countCutDownward(AxisTable x) {
        AxisTable y = wanting(20, -6, 20, 33);
        // 26 counts to 20 places, then 13: 1.3 a place, then 0.65.
        int[] want = {-6, -5, -4, -3, -1, 0, 1, 3, 4, 5, 7};
        for (int place = 0; place < want.length; place++) {
            due("countOf(" + place + ")", y.countOf(place), want[place]);
        }
        due("countOf(22)", y.countOf(22), 21);
        due("countOf(23)", y.countOf(23), 21);
        due("countOf(24)", y.countOf(24), 22);
        AxisTable flat = wanting(99, 40, 59);
        due("19 * 5 / 99", flat.countOf(5), 40);
        due("19 * 6 / 99", flat.countOf(6), 41);
        due("19 * 98 / 99", flat.countOf(98), 58);
    }

    private static void placeIsTheLeast(AxisTable x) {
        AxisTable flat = wanting(10, 9, 9);
        due("table", tableOf(flat, 0), "9 10");
        due("countOf(9)", flat.countOf(9), 9);
        due("placeOf(9)", flat.placeOf(9), 0);
        due("placeOf(10)", flat.placeOf(10), 10);
        AxisTable steep = wanting(20, -6, 20, 33);
        due("a count that is skipped", steep.placeOf(-2), 4);
        due("a count that is hit", steep.placeOf(-1), 4);
        due("the next", steep.placeOf(0), 5);
        due("skipped", steep.placeOf(2), 7);
        due("at the second point", steep.placeOf(20), 20);
        due("behind it", steep.placeOf(21), 22);
    }

    private static void placeOfCountsBeyond(AxisTable x) {
        AxisTable y = wanting(20, -6, 20, 33);
        due("below the first", y.placeOf(-200), 0);
        due("below the first", y.placeOf(-7), 0);
        due("the first", y.placeOf(-6), 0);
        due("above the first", y.placeOf(-5), 1);
        due("below the last", y.placeOf(32), 39);
        due("the last", y.placeOf(33), 40);
        due("above the last", y.placeOf(34), NONE);
        due("above the last", y.placeOf(2000), NONE);
        AxisTable first = wanting(20, 30, 45);
        due("0 is below the first", first.placeOf(0), 0);
        due("the first", first.placeOf(30), 0);
        due("above the first", first.placeOf(31), 2);
        AxisTable below = wanting(10, -40, -30);
        due("the last, below 0", below.placeOf(-30), 10);
        due("above the last, below 0", below.placeOf(-29), NONE);
        due("0 is above the last", below.placeOf(0), NONE);
        due("above the last", below.placeOf(1), NONE);
    }

    private static void moveTakesUpThePlay(AxisTable x) {
        done(x, "up 3 3 3;down - 3 - 3 - 3");
        due("play counts", x.told(2), 6);
        due("up", x.move(20), 20);
        due("up again", x.move(21), 21);
        due("down by one", x.move(20), 14);
        due("down again", x.move(19), 13);
        due("up by one", x.move(20), 20);
        due("down to 0", x.move(0), -6);
        due("up to the last", x.move(40), 40);
        AxisTable none = told("down 3 3 3;up - 3 - 3 - 3");
        due("play counts", none.told(2), 0);
        none.move(20);
        due("down without play", none.move(19), 19);
    }

    private static void turnsTheOtherWayAlone(AxisTable x) {
        due("at rest", x.told(5), 0);
        x.move(10);
        due("up from rest", x.told(5), 0);
        x.move(40);
        due("up again", x.told(5), 0);
        x.move(39);
        due("down", x.told(5), 1);
        x.move(0);
        due("down again", x.told(5), 1);
        x.move(1);
        due("up", x.told(5), 2);
        due("refused", x.move(1), NOT);
        due("as before", x.told(5), 2);
        x.move(0);
        due("down", x.told(5), 3);
    }

    private static void travelEitherWay(AxisTable x) {
        done(x, "up 3 3 3;down - 3 - 3 - 3");
        int[] places = {10, 40, 30, 5, 6, 5};
        int[] travel = {10, 40, 56, 81, 88, 95};
        for (int k = 0; k < places.length; k++) {
            x.move(places[k]);
            due("travel", x.told(6), travel[k]);
        }
        AxisTable flat = wanting(10, 9, 9);
        flat.move(1);
        flat.move(2);
        due("the screw need not go", standOf(flat), "2 9 0 0 1");
        flat.move(1);
        due("it turns all the same", standOf(flat), "1 9 1 0 0");
    }

    /** Which way the axis goes is told by places, whatever way the screw goes for it. */
    private static void upThoughTheScrewGoesDown(AxisTable x) {
        x.move(20);
        x.run(1, 0, 20);
        x.run(1, 1, 20);
        due("table", tableOf(x, 0), "0 1 40");
        due("the screw stays", standOf(x), "20 20 0 20 1");
        due("up by one", x.move(21), 2);
        due("the screw went 18 down", standOf(x), "21 2 0 38 1");
        x.clear(1, 0);
        x.clear(1, 1);
        due("down by one", x.move(20), 20);
        due("the screw went 18 up", standOf(x), "20 20 1 56 0");
    }

    private static void atRest(AxisTable x) {
        due("a new one", standOf(x), "0 0 0 0 1");
        AxisTable y = told("at 0 up 9;at 0 down 9");
        due("the screw at the count of 0", standOf(y), "0 -9 0 0 1");
        y.move(1);
        due("as if it had gone up last", y.told(5), 0);
    }

    private static void missOfEitherWay(AxisTable x) {
        due("none, way 0", fraction(x, 2, 5), "0/1");
        due("none, way 1", fraction(x, 2, 6), "0/1");
        AxisTable y = told("axis 2 20;at 0 up 6;at 0 down 1");
        // Slope 7/2, wanted -7/2, table -4; play 5/2, play counts 2.
        due("way 0", fraction(y, 0, 5), "2/1");
        due("way 1", fraction(y, 0, 6), "-1/1");
        due("no runs, way 0", fraction(y, 1, 5), "0/1");
        due("no runs, way 1: the play counts", fraction(y, 1, 6), "2/1");
        AxisTable z = told("axis 2 20;at 0 up 1;at 0 up 0;at 0 up 0");
        due("a fraction", fraction(z, 0, 5), "1/3");
    }

    // ---- section 3: the sheet, what is foretold

    private static void sheetAsTold(AxisTable x) {
        due("as the document has it", sheetOf(told("axis 2 20;up - 1 14;down - 5 10")), "0:+3;1:-12;p4");
    }

    private static void sheetPlusOfNought(AxisTable x) {
        due("of 0", sheetOf(x), "0:+0;1:+0;2:+0;p0");
        due("1 either way", sheetOf(wanting(20, 1, 19, 40)), "0:+1;1:-1;2:+0;p0");
    }

    private static void sheetNumbersOfOneDigitAndTwo(AxisTable x) {
        due("9 and 10", sheetOf(wanting(20, 9, 30, 31, 50)), "0:+9;1:+10;2:-9;3:-10;p0");
        due("play 9", sheetOf(told("axis 2 20;up 9 9;down 0 0")), "0:-5;1:-5;p9");
        due("play 10", sheetOf(told("axis 2 20;up 5 5;down - 5 - 5")), "0:+0;1:+0;p10");
        due("play 80", sheetOf(told("axis 2 20;up 40 40;down - 40 - 40")), "0:+0;1:+0;p80");
    }

    private static void sheetShortestAndLongest(AxisTable x) {
        AxisTable least = told("axis 2 20");
        due("sheet", sheetOf(least), "0:+0;1:+0;p0");
        due("letters", least.told(9), 12);
        due("behind it", least.sheet(12), NONE);
        AxisTable most = told("axis 8 20;up 40 40 40 40 40 40 40 40;down 20 20 20 20 20 20 20 20");
        due("sheet", sheetOf(most), "0:-30;1:-30;2:-30;3:-30;4:-30;5:-30;6:-30;7:-30;p20");
        due("letters", most.told(9), 51);
        due("the last", most.sheet(50), '0');
        due("behind it", most.sheet(51), NONE);
    }

    private static void worstOfLikeOnesTheLeast(AxisTable x) {
        due("all 0", x.worst(), 0);
        due("like ones either way", told("axis 2 20;at 1 up 8;at 1 down - 8;at 0 up - 8;at 0 down 8").worst(), 0);
        due("a like one behind it", told("at 1 up 7;at 1 down - 7").worst(), 2);
        String lasts = "at 2 up - 3;at 2 down 4;at 2 down 4;at 2 down 3";
        due("greater behind lesser ones", told("at 0 up - 2;at 0 down 2;" + lasts).worst(), 5);
        due("the last of all", told("axis 8 10;" + lasts.replace('2', '7')).worst(), 15);
    }

    private static void worstEitherWay(AxisTable x) {
        AxisTable below = told("at 0 down 2;at 0 up - 2;at 1 up 2;at 1 down - 3");
        due("misses", fraction(below, 1, 5) + " " + fraction(below, 1, 6), "2/1 -3/1");
        due("below 0 is greatest", below.worst(), 3);
        AxisTable above = told("at 0 down 2;at 0 up - 2;at 1 up 3;at 1 down - 2");
        due("misses", fraction(above, 1, 5) + " " + fraction(above, 1, 6), "2/1 -3/1");
        due("the table takes up a half", above.worst(), 3);
        // By a sixtieth: 1/4 against 1/5.
        AxisTable near = told("axis 2 20;at 0 up 1;at 0 up 0;at 0 up 0;at 0 up 0;at 0 up 0;"
                + "at 1 up 1;at 1 up 0;at 1 up 0;at 1 up 0");
        due("misses", fraction(near, 0, 5) + " " + fraction(near, 1, 5), "1/5 1/4");
        due("by a sixtieth", near.worst(), 2);
    }

    private static void mergedWithSuchARun(AxisTable x) {
        due("the first run", x.merged(1, 0, 10), 15);
        for (int k = 0; k < 5; k++) {
            x.run(1, 0, 40);
        }
        due("the sixth: 160 by 6", x.merged(1, 0, -40), 7);
        x.run(1, 0, 40);
        due("the seventh, the oldest goes: 160 by 6", x.merged(1, 0, -40), 7);
        due("the runs are as they were", runsOf(x, 1, 0), "40 40 40 40 40 40");
        due("the table is as it was", tableOf(x, 0), "0 1 40");
        due("told(11)", x.told(11), 6);
    }

    // ---- section 4: labels, parts

    private static void labelsNoughtToTwo(AxisTable x) {
        for (int label = 0; label < 3; label++) {
            due("missing at first", x.turn(label), NULL);
            due("label", x.label(label), 0);
            due("there", x.turn(label), 0);
        }
        due("label(3)", x.label(3), UNKNOWN);
        due("label(-1)", x.label(-1), UNKNOWN);
    }

    private static void labelsOfNoneTo24Letters(AxisTable x) {
        x.label(0);
        due("of none", read(x, 0), "");
        for (int length = 1; length <= 24; length++) {
            due("insert", x.insert(0, length - 1, 'a' + length - 1), length);
        }
        due("of 24", read(x, 0), "abcdefghijklmnopqrstuvwx");
        due("one more", x.insert(0, 24, 'y'), ROOM);
        due("one more ahead", x.insert(0, 0, 'y'), ROOM);
        due("of 24 yet", read(x, 0), "abcdefghijklmnopqrstuvwx");
    }

    private static void labelsOfLetters32To126(AxisTable x) {
        x.label(0);
        due("31", x.insert(0, 0, 31), OUTSIDE);
        due("32", x.insert(0, 0, 32), 1);
        due("126", x.insert(0, 1, 126), 2);
        due("127", x.insert(0, 2, 127), OUTSIDE);
        due("0", x.insert(0, 2, 0), OUTSIDE);
        due("288", x.insert(0, 2, 256 + 32), OUTSIDE);
        due("-1", x.insert(0, 2, -1), OUTSIDE);
        due("letters", x.letter(0, 0) * 1000 + x.letter(0, 1), 32126);
    }

    private static void partsInLowestTerms(AxisTable x) {
        due("0", fraction(x, 0, 0), "0/1");
        x.run(0, 0, 3);
        x.run(0, 0, -6);
        due("-3/2", fraction(x, 0, 0), "-3/2");
        x.run(0, 0, 9);
        due("6/3", fraction(x, 0, 0), "2/1");
        x.run(0, 0, 0);
        due("6/4", fraction(x, 0, 0), "3/2");
        x.run(0, 0, -16);
        due("-10/5", fraction(x, 0, 0), "-2/1");
        x.run(0, 0, -11);
        due("-21/6", fraction(x, 0, 0), "-7/2");
        due("slope", fraction(x, 0, 2), "-7/4");
        due("wanted", fraction(x, 0, 3), "7/4");
        due("play", playOf(x), "-7/6");
    }

    /** Sixths, fifths and quarters together leave nothing to divide by. */
    private static void partsThatAreInLowestTermsAlready(AxisTable x) {
        String sixth = "at0up1;at0up0;at0up0;at0up0;at0up0;at0up0;";
        AxisTable play = told(sixth + "at1up1;at1up0;at1up0;at1up0;at1up0;at2up1;at2up0;at2up0;at2up0");
        due("play", playOf(play), "37/180");
        AxisTable pooled = told("axis 2 10;" + sixth + "at0down1;at0down0;at0down0;at0down0;at0down0;"
                + "at1up20;at1up21;at1up21;at1up21");
        due("sizes", tableOf(pooled, 2), "2 2");
        due("pool's mean", fraction(pooled, 0, 4), "-67/240");
        due("pool's mean", fraction(pooled, 1, 4), "-67/240");
    }

    public static void main(String[] args) {
        check("3 points at first", TermsTest::threePointsAtFirst);
        check("n 2 .. 8", TermsTest::pointsTwoToEight);
        check("s 20 at first", TermsTest::stepTwentyAtFirst);
        check("s 10 .. 99", TermsTest::stepTenTo99);
        check("nominal places 0, s, 2 s ..", TermsTest::nominalPlaces);
        check("err -40 .. 40", TermsTest::errsFortyEitherWay);
        check("way 0 or 1", TermsTest::waysNoughtAndOne);
        check("6 runs at most", TermsTest::sixRunsAtMost);
        check("6 of each point and way", TermsTest::sixOfEachPointAndWay);
        check("the oldest one of a point and way goes", TermsTest::theOldestOfOneAlone);
        check("mean 0, if there is none", TermsTest::meanOfNoneIsNought);
        check("mean of the runs, a fraction", TermsTest::meanIsAFraction);
        check("the text, 200 letters at most", TermsTest::textOfTwoHundred);
        check("the text read to its last letter", TermsTest::textReadToItsTwoHundredthLetter);
        check("24 clauses at most", TermsTest::clausesTwentyFourAtMost);
        check("a text of no clause", TermsTest::clausesOneAtLeast);
        check("clauses with ; between", TermsTest::clausesWithSemicolonsBetween);
        check("each is one of four", TermsTest::clauseBeginsWithItsWord);
        check("axis N S", TermsTest::axisTakesTwoNumbers);
        check("axis: all else as at first", TermsTest::axisIsAllAsAtFirst);
        check("just as many E as points", TermsTest::asManyErrsAsPoints);
        check("just as many E as points there are", TermsTest::asManyErrsAsPointsThereAre);
        check("E is a number, or - and a number", TermsTest::errOfOneOrTwoTokens);
        check("at K W E", TermsTest::atTakesPointWayErr);
        check("at point K", TermsTest::atOnePointOfThoseThereAre);
        check("where there are 6 the oldest one goes", TermsTest::theOldestGoesInTextsToo);
        check("small letters a .. z", TermsTest::smallLettersAToZ);
        check("a row of digits", TermsTest::digitsNoughtToNine);
        check("numbers of 1 or 2 digits", TermsTest::numbersOfOneOrTwoDigits);
        check("blanks between", TermsTest::blanksBetween);
        check("what was there stays", TermsTest::whatWasThereStays);
        check("a fault is at the first token", TermsTest::faultIsTheFirst);
        check("the letter with which the token begins", TermsTest::faultIsWhereTheTokenBegins);
        check("at the end, if it comes too soon", TermsTest::faultAtTheEndIfItComesTooSoon);
        check("clauses are done in their order", TermsTest::clausesInTheirOrder);
        check("behind them the axis is at rest", TermsTest::atRestBehindThem);
        check("nothing is kept or can be undone", TermsTest::nothingKeptOrUndoneBehindThem);
        check("labels are all missing", TermsTest::labelsMissingBehindThem);
        check("slope", TermsTest::slopeOfBothMeans);
        check("play, by n", TermsTest::playByAllPoints);
        check("play counts: nearest", TermsTest::playCountsNearest);
        check("play counts: of two as near the one nearer to 0", TermsTest::playCountsOfTwoAsNear);
        check("play counts: 0 at least", TermsTest::playCountsNoughtAtLeast);
        check("wanted", TermsTest::wantedIsNominalLessSlope);
        check("pooled: not more than the pool ahead", TermsTest::pooledIfNotMore);
        check("pooled: each a pool of its own", TermsTest::pooledOnlyWhereNeeded);
        check("pooled: as long as", TermsTest::pooledAsLongAsItIsSo);
        check("pooled: all in one, none", TermsTest::pooledAllEight);
        check("table: nearest", TermsTest::tableIsNearest);
        check("table: of two as near the lesser one", TermsTest::tableOfTwoAsNear);
        check("table: at least 1 more than the point ahead", TermsTest::tableRisesByOneAtLeast);
        check("count: 0 to the last nominal place", TermsTest::countAtThePoints);
        check("count: cut downward", TermsTest::countCutDownward);
        check("place: the least", TermsTest::placeIsTheLeast);
        check("place: none above the last", TermsTest::placeOfCountsBeyond);
        check("move: play counts lower, going down", TermsTest::moveTakesUpThePlay);
        check("turns", TermsTest::turnsTheOtherWayAlone);
        check("travel", TermsTest::travelEitherWay);
        check("goes down: to a lesser place", TermsTest::upThoughTheScrewGoesDown);
        check("at rest", TermsTest::atRest);
        check("miss", TermsTest::missOfEitherWay);
        check("the sheet as told", TermsTest::sheetAsTold);
        check("the sheet: + of 0", TermsTest::sheetPlusOfNought);
        check("the sheet: numbers", TermsTest::sheetNumbersOfOneDigitAndTwo);
        check("the sheet: shortest, longest", TermsTest::sheetShortestAndLongest);
        check("worst: of like ones the least", TermsTest::worstOfLikeOnesTheLeast);
        check("worst: either way", TermsTest::worstEitherWay);
        check("merged", TermsTest::mergedWithSuchARun);
        check("labels 0 .. 2, missing at first", TermsTest::labelsNoughtToTwo);
        check("labels of 0 to 24 letters", TermsTest::labelsOfNoneTo24Letters);
        check("letters 32 .. 126", TermsTest::labelsOfLetters32To126);
        check("parts in lowest terms", TermsTest::partsInLowestTerms);
        check("parts in lowest terms already", TermsTest::partsThatAreInLowestTermsAlready);
        finish();
    }
}
