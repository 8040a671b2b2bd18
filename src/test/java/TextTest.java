/** Promises 9 to 12: the two texts, their faults, and what is covered. */
public final class TextTest {
    private static final String RULE = "when force above 1 do wait;";
    private static final String BOX = "box 0 0 0 0 from 0 to 0;";

    public static void main(String[] args) {
        goodTexts();
        skipperFaults();
        insurerFaults();
        whatStays();
        wrongBoats();
        coverBoxes();
        coverEdges();
        coverRange();
        Check.finish();
    }

    private static void good(int got, int want, Desk x) {
        Check.due("good text", got, want);
        Check.due("kind of none", x.fault(0), 0);
        Check.due("place of none", x.fault(1), -1);
        Check.due("tape is empty", x.count(3), 0);
    }

    private static void goodTexts() {
        Desk x = new Desk();
        good(Check.skipper(x, 0, ""), 0, x);
        good(Check.skipper(x, 0, " \n \n"), 0, x);
        good(Check.skipper(x, 0, "when force above 0 do wait;"), 1, x);
        good(Check.skipper(x, 0, "\nwhen water\nbelow9999do turn ; when day above0000do end;when broken below 4 do end;\n"), 3, x);
        good(Check.skipper(x, 0, RULE.repeat(12)), 12, x);
        Check.due("12 rules", x.count(10), 12);
        good(Check.skipper(x, 0, ""), 0, x);
        Check.due("no rules", x.count(10), 0);
        good(Check.insurer(x, 0, ""), 0, x);
        good(Check.insurer(x, 0, "box29 19 0 0from 359to 0;crew9;force0;"), 3, x);
        good(Check.insurer(x, 0, BOX.repeat(12) + "crew 0;force 9;"), 14, x);
        Check.due("12 boxes", x.count(20), 12);
        good(Check.insurer(x, 0, "crew 0009;"), 1, x);
        Check.due("no boxes", x.count(20), 0);
    }

    private static void bad(String text, boolean rules, int kind, int place) {
        Desk x = new Desk();
        int got = rules ? Check.skipper(x, 3, text) : Check.insurer(x, 3, text);
        Check.due("'" + text + "'", got, -1);
        Check.due("kind of '" + text + "'", x.fault(0), kind);
        Check.due("place of '" + text + "'", x.fault(1), place);
        Check.due("no more of it", x.fault(2), -1);
        Check.due("nor less", x.fault(-1), -1);
    }

    private static void skipperFaults() {
        bad(";", true, 1, 0);
        bad("5", true, 1, 0);
        bad("force above 1 do end;", true, 1, 0);
        bad("whe force above 1 do end;", true, 1, 0);
        bad("whenforce above 1 do end;", true, 1, 0);
        bad("when  ", true, 1, 6);
        bad("when 5 above 1 do end;", true, 1, 5);
        bad("when force over 1 do end;", true, 1, 11);
        bad("when force above do end;", true, 1, 17);
        bad("when force above 1; do end;", true, 1, 18);
        bad("when force above 00001 do end;", true, 1, 17);
        bad("when force above 1 1 do end;", true, 1, 19);
        bad("when force above 1 do ends;", true, 1, 22);
        bad("when force above 1 do end when", true, 1, 26);
        bad("when force above 1 do end;\t", true, 1, 26);
        bad("when force above 1 do end;\u00ff", true, 1, 26);
        bad("when force\0above 1 do end;", true, 1, 10);
        bad("when force above 1 do end; when", true, 1, 31);
        bad("when force above -1 do end;", true, 1, 17);
        bad("when force above 1 do eNd;", true, 1, 22);
        bad(RULE.repeat(12) + " whenever", true, 1, 325);
        bad(RULE.repeat(12) + " when 5", true, 4, 325);
        bad("crew 1;", true, 1, 0);
    }

    private static void insurerFaults() {
        bad("when force above 1 do end;", false, 1, 0);
        bad("box 30 0 0 0 from 0 to 0;", false, 2, 4);
        bad("box 0 20 0 0 from 0 to 0;", false, 2, 6);
        bad("box 0 0 0 0 from 360 to 0;", false, 2, 17);
        bad("box 0 0 0 0;", false, 1, 11);
        bad("box 0 0 0 0 from 0;", false, 1, 18);
        bad("crewz 1;", false, 1, 0);
        bad("drew 1;", false, 1, 0);
        bad("crew {1;", false, 1, 5);
        bad("crew 1:;", false, 1, 6);
        bad("crew `1;", false, 1, 5);
        bad("crew /1;", false, 1, 5);
        bad("crew 1\r;", false, 1, 6);
        bad("box 0 0 30 0 from 0 to 0;", false, 2, 8);
        bad("box 0 0 0 20 from 0 to 0;", false, 2, 10);
        bad("box 29 19 29 19 from 359 to 360;", false, 2, 28);
        bad("box 12345 0 0 0 from 0 to 0;", false, 1, 4);
        bad("box 0 0 0 from 0 to 0;", false, 1, 10);
        bad("box 0 0 0 0 from to 0;", false, 1, 17);
        bad("box 0 0 0 0 from 0 0;", false, 1, 19);
        bad("box 0 0 0 0 from 0 to 0", false, 1, 23);
        bad("force 10;", false, 2, 6);
        bad("force 9 9;", false, 1, 8);
        bad("crew;", false, 1, 4);
        bad("crew 1; force 1; crew ten;", false, 3, 17);
        bad("force 9;crew 1;force 12345;", false, 3, 15);
        bad("crew 0;crew 0;", false, 3, 7);
        bad(BOX.repeat(12) + "crew 1;box", false, 4, 295);
        bad(BOX.repeat(12) + "crew 1;boxes", false, 1, 295);
    }

    private static void whatStays() {
        Desk x = new Desk();
        Check.skipper(x, 0, RULE + RULE);
        Check.insurer(x, 0, BOX + "crew 4;");
        Check.due("bad rules", Check.skipper(x, 0, RULE + RULE + RULE + "oh"), -1);
        Check.due("bad lines", Check.insurer(x, 0, BOX + BOX + "force 2; crew 9; oh"), -1);
        Check.due("rules stay", x.count(10), 2);
        Check.due("boxes stay", x.count(20), 1);
        Check.due("crew stays", x.covers(0, 500, 9, 4, 9), 1);
        Check.due("crew stays", x.covers(0, 500, 9, 3, 9), 0);
        Check.due("other boats", x.count(11), 0);
        Check.due("new crew line", Check.insurer(x, 1, "crew 2;"), 1);
        Check.due("old force goes", Check.insurer(x, 0, "force 3;"), 1);
        Check.due("without a crew line", x.covers(0, 0, 0, 0, 3), 1);
        Check.due("boat 1 keeps its own", x.covers(1, 0, 0, 1, 3), 0);
        Check.due("without a force line", x.covers(1, 0, 0, 2, 9), 1);
    }

    private static void wrongBoats() {
        Desk x = new Desk();
        Check.skipper(x, 0, "oh");
        Check.tape(x, "oh no");
        Check.due("boat 6", x.skipper(6), -2);
        Check.due("boat -1", x.insurer(-1), -2);
        Check.due("tape stays", x.count(3), 5);
        Check.due("fault of before stays", x.fault(0), 1);
        Check.due("its place too", x.fault(1), 0);
        Check.tape(x, "force 1;");
        Check.due("good insurer", x.insurer(5), 1);
        Check.due("fault is gone", x.fault(0), 0);
    }

    private static Desk boxed() {
        Desk x = new Desk();
        Check.insurer(x, 0, "box 7 12 4 10 from 30 to 59; box 20 0 20 0 from 300 to 20; box 9 9 9 9 from 100 to 100;");
        return x;
    }

    private static void coverBoxes() {
        for (int column = 0; column < 30; column++) {
            Desk x = boxed();
            for (int row = 0; row < 20; row++) {
                boolean in = column >= 4 && column <= 7 && row >= 10 && row <= 12;
                Check.due("box at " + column + ", " + row, x.covers(0, 100 * column + row, 40, 1, 0), in ? 0 : 1);
            }
        }
        Desk x = boxed();
        for (int day = 0; day <= 999; day++) {
            x = x.callsLeft() < 3 ? boxed() : x;
            int date = day % 360;
            Check.due("first box, day " + day, x.covers(0, 510, day, 1, 0), date >= 30 && date <= 59 ? 0 : 1);
            Check.due("over the year, day " + day, x.covers(0, 2000, day, 1, 0), date >= 300 || date <= 20 ? 0 : 1);
            Check.due("one day, day " + day, x.covers(0, 909, day, 1, 0), date == 100 ? 0 : 1);
        }
    }

    private static void coverEdges() {
        Desk x = new Desk();
        Check.insurer(x, 0, "crew 3; force 6;");
        for (int crew = 0; crew <= 9; crew++) {
            for (int force = 0; force <= 9; force++) {
                Check.due("crew " + crew + " force " + force, x.covers(0, 0, 0, crew, force), crew >= 3 && force <= 6 ? 1 : 0);
            }
        }
    }

    private static void coverRange() {
        Desk x = new Desk();
        int[][] bad = {{-1, 0, 0, 0, 0}, {6, 0, 0, 0, 0}, {0, -1, 0, 0, 0}, {0, 20, 0, 0, 0}, {0, 3000, 0, 0, 0},
            {0, 0, -1, 0, 0}, {0, 0, 1000, 0, 0}, {0, 0, 0, -1, 0}, {0, 0, 0, 10, 0}, {0, 0, 0, 0, -1}, {0, 0, 0, 0, 10}};
        for (int[] c : bad) {
            Check.due("bad covers", x.covers(c[0], c[1], c[2], c[3], c[4]), -2);
        }
        Check.due("the last of all", x.covers(5, 2919, 999, 9, 9), 1);
    }
}
