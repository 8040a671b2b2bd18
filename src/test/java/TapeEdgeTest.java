import java.util.Arrays;

/** Each sentence on a bound of THE TAPE, the two texts and their FAULTS (Terms I, promises 2, 3 and 9 to 11). */
public final class TapeEdgeTest {
    private static final String RULE = "when force above 1 do wait;";
    private static final String BOX = "box 0 0 0 0 from 0 to 0;";
    private static final String FIVE_BLANKS = " 538976288 538976288 538976288 538976288 538976288";

    public static void main(String[] args) {
        atMost800();
        highestFirst();
        endKeepsTheFirst();
        endOfTooMany();
        emptyTexts();
        blanks();
        noOtherBlanks();
        wordsAreSmallLettersAsManyAsThereAre();
        numbersAreDigitsAsManyAsThereAre();
        numbersOfFourDigits();
        fullTape();
        ruleBounds();
        boxBounds();
        crewAndForceBounds();
        eachWordOfARule();
        eachLetterCounts();
        tokensLeftOut();
        tokensSkipped();
        tokensTwice();
        twelveRules();
        twelveBoxes();
        withoutLines();
        syntaxAtEachToken();
        atTheTextsEnd();
        bytesThatAreNoToken();
        firstFaultAlone();
        leastKind();
        twice();
        tapeIsEmptyThen();
        rangeReadsNothing();
        textOfBeforeStays();
        nothingIsLeftOfOtherTexts();
        linesAreCounted();
        faultIsOfTheLatest();
        faultWhats();
        boatsBounds();
        Check.finish();
    }

    /** A text that has a fault of a kind at a place, or none (kind 0), and how many rules or lines it has. */
    private static void text(String call, String text, int answer, int kind, int place) {
        Desk x = new Desk();
        Check.tape(x, text);
        String told = call + " of '" + text + "'";
        Check.due(told, x.call(call, 0), answer);
        Check.due(told + " kind", x.fault(0), kind);
        Check.due(told + " place", x.fault(1), place);
    }

    private static void good(String call, String text, int answer) {
        text(call, text, answer, 0, -1);
    }

    private static void bad(String call, String text, int kind, int place) {
        text(call, text, -1, kind, place);
    }

    private static void atMost800() {
        Desk x = Check.run("Promise 2: FULL when there would be more than 800", "39* feed 0 0 0 0 0", "count 3 = 780", "feed 0 0 0 0 0 = 800",
            "feed 0 0 0 0 0 = -3", "count 3 = 800");
        Check.run(x, "end 781 = 781", "feed 0 0 0 0 0 = -3", "count 3 = 781", "end 780 = 780", "feed 0 0 0 0 0 = 800", "end 799 = 799",
            "feed 0 0 0 0 0 = -3", "count 3 = 799", "end 0 = 0", "feed 0 0 0 0 0 = 20");
        Check.run("Promise 2: FULL feeds nothing", "feed 1668441463 540097312 538976288 538976288 538976288 = 20", "39* feed" + FIVE_BLANKS,
            "end 781 = 781", "feed 0 0 0 0 0 = -3", "insurer 0 = 1", "fault 0 = 0");
    }

    private static void highestFirst() {
        Check.run("Promise 2: the highest of each int first", "feed 1668441463 540490528 538976288 538976288 538976288 = 20",
            "insurer 0 = 1", "covers 0 0 0 7 0 = 1", "covers 0 0 0 6 0 = 0");
        Check.run("Promise 2: twenty bytes come behind THE TAPE", "feed 538976288 538976288 538976288 538976288 538976355 = 20",
            "feed 1919252256 926621728 538976288 538976288 538976288 = 40", "insurer 0 = 1", "covers 0 0 0 7 0 = 1", "covers 0 0 0 6 0 = 0");
        Check.run("Promise 2: bytes above 127 are bytes", "feed 538976288 538976511 -1 -1 -1 = 20", "insurer 0 = -1", "fault 0 = 1",
            "fault 1 = 7");
        for (int k = 0; k < 20; k++) {
            int[] five = {0x20202020, 0x20202020, 0x20202020, 0x20202020, 0x20202020};
            five[k / 4] |= 0xff << 24 - k % 4 * 8;
            Desk x = new Desk();
            x.feed(five[0], five[1], five[2], five[3], five[4]);
            x.skipper(0);
            Check.due("byte " + k, x.fault(1), k);
        }
    }

    private static void endKeepsTheFirst() {
        Check.run("Promise 3: THE TAPE has its first n bytes alone: n", "feed 1668441463 540097312 1717986918 0 0 = 20", "end 7 = 7",
            "count 3 = 7", "feed" + FIVE_BLANKS + " = 27", "end 27 = 27", "insurer 0 = 1");
        Check.run("Promise 3: with n 0", "feed 0 0 0 0 0 = 20", "end 0 = 0", "count 3 = 0", "end 0 = 0", "insurer 0 = 0");
        Check.run("Promise 3: with all that it has", "feed 1 2 3 4 5 = 20", "end 20 = 20", "end 19 = 19", "end 19 = 19", "count 3 = 19");
    }

    private static void endOfTooMany() {
        Check.run("Promise 3: NONE when it has not so many", "end 1 = -1", "feed 0 0 0 0 0 = 20", "end 21 = -1", "count 3 = 20",
            "end 2147483647 = -1", "end 5 = 5", "end 6 = -1", "end 20 = -1", "count 3 = 5");
        Check.run("Promise 3: or n is below 0", "end -1 = -1", "feed 0 0 0 0 0 = 20", "end -1 = -1", "end -2147483648 = -1", "end -20 = -1",
            "count 3 = 20");
    }

    private static void emptyTexts() {
        Check.sentence("Terms I: a text of no rules, no lines");
        good("skipper", "", 0);
        good("insurer", "", 0);
        good("skipper", "   \n\n ", 0);
        good("insurer", "\n", 0);
    }

    private static void blanks() {
        Check.sentence("Terms I: TOKENS with any blanks (32, 10) between");
        good("skipper", "\n \nwhen\nforce \n above\n\n1 do\nwait\n; \n", 1);
        good("skipper", "when force above1do wait;when water below2do end;", 2);
        good("insurer", "box1 2 3 4from5to6;crew7;force8;", 3);
        good("insurer", "  box   1  2\n3\n\n4 from 5 to 6 ; crew\n7\n;force 8 ;   ", 3);
    }

    private static void noOtherBlanks() {
        Check.sentence("Terms I: a byte that is no blank and no TOKEN");
        for (int c = 0; c < 256; c++) {
            boolean fits = c == 32 || c == 10;
            text("insurer", "crew 1" + (char) c + ";", fits ? 1 : -1, fits ? 0 : c >= '0' && c <= '9' ? 2 : 1,
                fits ? -1 : c >= '0' && c <= '9' ? 5 : c == ';' ? 7 : 6);
        }
    }

    private static void wordsAreSmallLettersAsManyAsThereAre() {
        Check.sentence("Terms I: WORDS (small letters, as many as there are)");
        bad("insurer", "crews 1;", 1, 0);
        bad("insurer", "cre w 1;", 1, 0);
        bad("insurer", "cre", 1, 0);
        bad("insurer", "Crew 1;", 1, 0);
        bad("insurer", "creW 1;", 1, 0);
        bad("insurer", "crew 1;boxcrew 1;", 1, 7);
        bad("skipper", "whenforce above 1 do wait;", 1, 0);
        bad("skipper", "when forceabove 1 do wait;", 1, 5);
        bad("skipper", "when force above 1 dowait;", 1, 19);
        bad("skipper", "when force above 1 do waits;", 1, 22);
        bad("skipper", "when force above 1 do wai;", 1, 22);
        bad("insurer", "a".repeat(800), 1, 0);
        for (char c = 'a'; c <= 'z'; c++) {
            bad("insurer", "crew" + c + " 1;", 1, 0);
            bad("insurer", c + "crew 1;", 1, 0);
            bad("skipper", "when" + c + " force above 1 do wait;", 1, 0);
        }
    }

    private static void eachLetterCounts() {
        Check.sentence("Terms I: WORDS are told letter by letter");
        changeEachLetter("skipper", "when force above 1 do wait;");
        changeEachLetter("skipper", "when water below 1 do turn;");
        changeEachLetter("skipper", "when day below 1 do end;");
        changeEachLetter("skipper", "when broken below 1 do end;");
        changeEachLetter("insurer", "box 0 0 0 0 from 0 to 0;");
        changeEachLetter("insurer", "crew 1;");
        changeEachLetter("insurer", "force 1;");
    }

    private static void changeEachLetter(String call, String line) {
        good(call, line, 1);
        int start = 0;
        for (int k = 0; k < line.length(); k++) {
            start = k > 0 && line.charAt(k - 1) == ' ' ? k : start;
            if (Character.isLetter(line.charAt(k))) {
                bad(call, line.substring(0, k) + "q" + line.substring(k + 1), 1, start);
                bad(call, line.substring(0, k) + Character.toUpperCase(line.charAt(k)) + line.substring(k + 1), 1, start);
            }
        }
    }

    private static void numbersAreDigitsAsManyAsThereAre() {
        Check.sentence("Terms I: NUMBERS (digits, as many as there are)");
        good("insurer", "crew 0;", 1);
        good("insurer", "crew 0000;", 1);
        good("insurer", "crew 0009;", 1);
        bad("insurer", "crew 1 2;", 1, 7);
        bad("insurer", "crew 12;", 2, 5);
        bad("insurer", "crew -1;", 1, 5);
        bad("insurer", "crew +1;", 1, 5);
        bad("insurer", "crew 1.;", 1, 6);
    }

    private static void numbersOfFourDigits() {
        Check.sentence("Terms I: a NUMBER of five digits");
        good("skipper", "when water above 9999 do end;", 1);
        good("skipper", "when water above 0000 do end;", 1);
        bad("skipper", "when water above 00000 do end;", 1, 17);
        bad("skipper", "when water above 10000 do end;", 1, 17);
        bad("skipper", "when water above 99999 do end;", 1, 17);
        bad("skipper", "when water above 4294967297 do end;", 1, 17);
        bad("insurer", "crew 00001;", 1, 5);
        bad("insurer", "box 0 0 0 00000 from 0 to 0;", 1, 10);
        bad("insurer", "crew " + "0".repeat(795), 1, 5);
        bad("skipper", "12345", 1, 0);
    }

    private static void fullTape() {
        Check.sentence("Terms I: THE TAPE has at most 800 bytes, all of which are read");
        good("insurer", " ".repeat(793) + "crew 1;", 1);
        bad("insurer", " ".repeat(794) + "crew 1", 1, 800);
        bad("insurer", " ".repeat(799) + "?", 1, 799);
        good("skipper", RULE.repeat(12) + "\n".repeat(800 - 12 * 27), 12);
        bad("skipper", RULE.repeat(12) + "\n".repeat(799 - 12 * 27) + ";", 1, 799);
    }

    private static void ruleBounds() {
        Check.sentence("Terms I: N of a rule 0 .. 9999");
        for (String seen : new String[] {"force", "water", "day", "broken"}) {
            for (String side : new String[] {"above", "below"}) {
                good("skipper", "when " + seen + " " + side + " 0 do wait;", 1);
                good("skipper", "when " + seen + " " + side + " 9999 do turn;", 1);
                bad("skipper", "when " + seen + " " + side + " 10000 do end;", 1, 12 + seen.length());
            }
        }
    }

    private static void boxBounds() {
        Check.sentence("Terms I: C 0 .. 29, R 0 .. 19, D 0 .. 359");
        good("insurer", "box 0 0 0 0 from 0 to 0;", 1);
        good("insurer", "box 29 19 29 19 from 359 to 359;", 1);
        bad("insurer", "box 30 0 0 0 from 0 to 0;", 2, 4);
        bad("insurer", "box 0 20 0 0 from 0 to 0;", 2, 6);
        bad("insurer", "box 0 0 30 0 from 0 to 0;", 2, 8);
        bad("insurer", "box 0 0 0 20 from 0 to 0;", 2, 10);
        bad("insurer", "box 0 0 0 0 from 360 to 0;", 2, 17);
        bad("insurer", "box 0 0 0 0 from 0 to 360;", 2, 22);
        bad("insurer", "box 9999 0 0 0 from 0 to 0;", 2, 4);
        bad("insurer", "box 0 0 0 0 from 0 to 9999;", 2, 22);
    }

    private static void crewAndForceBounds() {
        Check.sentence("Terms I: N of crew, force 0 .. 9");
        for (int n = 0; n <= 9; n++) {
            good("insurer", "crew " + n + ";", 1);
            good("insurer", "force " + n + ";", 1);
        }
        bad("insurer", "crew 10;", 2, 5);
        bad("insurer", "force 10;", 2, 6);
        bad("insurer", "crew 9999;", 2, 5);
        bad("insurer", "force 9999;", 2, 6);
    }

    private static void eachWordOfARule() {
        Check.sentence("Terms I: rule");
        for (String seen : new String[] {"force", "water", "day", "broken"}) {
            for (String side : new String[] {"above", "below"}) {
                for (String act : new String[] {"wait", "turn", "end"}) {
                    good("skipper", "when " + seen + " " + side + " 5 do " + act + ";", 1);
                }
            }
        }
    }

    private static void twelveRules() {
        Check.sentence("Terms I: ROOM: the 13th rule at its first WORD");
        good("skipper", RULE.repeat(11), 11);
        good("skipper", RULE.repeat(12), 12);
        bad("skipper", RULE.repeat(13), 4, 324);
        bad("skipper", RULE.repeat(12) + " \n when", 4, 327);
        bad("skipper", RULE.repeat(12) + "when 5", 4, 324);
        bad("skipper", RULE.repeat(12) + "whe", 1, 324);
        bad("skipper", RULE.repeat(12) + ";", 1, 324);
    }

    private static void twelveBoxes() {
        Check.sentence("Terms I: ROOM: the 13th box at its first WORD");
        good("insurer", BOX.repeat(11), 11);
        good("insurer", BOX.repeat(12), 12);
        good("insurer", "crew 1;" + BOX.repeat(12) + "force 1;", 14);
        bad("insurer", BOX.repeat(13), 4, 288);
        bad("insurer", BOX.repeat(12) + "crew 1; force 1; box", 4, 305);
        bad("insurer", BOX.repeat(12) + "box box", 4, 288);
        bad("insurer", BOX.repeat(12) + "bo", 1, 288);
    }

    private static void withoutLines() {
        Check.run("Terms I: Without lines crew 0, force 9", "covers 0 0 0 0 9 = 1", "tape crew 9; force 0;", "insurer 0 = 2",
            "covers 0 0 0 8 0 = 0", "covers 0 0 0 9 1 = 0", "covers 0 0 0 9 0 = 1", "tape force 3;", "insurer 0 = 1", "covers 0 0 0 0 3 = 1",
            "covers 0 0 0 0 4 = 0", "tape crew 2;", "insurer 0 = 1", "covers 0 0 0 2 9 = 1", "covers 0 0 0 1 9 = 0", "end 0 = 0",
            "insurer 0 = 0", "covers 0 0 0 0 9 = 1");
    }

    /** Each token left out, doubled, or another one in its place. */
    private static void syntaxAtEachToken() {
        Check.sentence("Terms I: SYNTAX: a TOKEN with which no text goes on");
        spoilEach("skipper", "when force above 1 do wait ;");
        spoilEach("insurer", "box 0 1 2 3 from 4 to 5 ;");
        spoilEach("insurer", "crew 1 ;");
        spoilEach("insurer", "force 1 ;");
    }

    private static void spoilEach(String call, String line) {
        String[] tokens = line.split(" ");
        for (int k = 0; k < tokens.length; k++) {
            StringBuilder ahead = new StringBuilder();
            for (int j = 0; j < k; j++) {
                ahead.append(tokens[j]).append(' ');
            }
            bad(call, ahead + "x", 1, ahead.length());
            bad(call, ahead + "?", 1, ahead.length());
            boolean number = Character.isDigit(tokens[k].charAt(0));
            bad(call, ahead + (number ? ";" : "1"), 1, ahead.length());
            if (k > 0) {
                bad(call, ahead + "when", 1, ahead.length());
                bad(call, ahead + "box", 1, ahead.length());
                bad(call, ahead.toString(), 1, ahead.length());
            }
            if (!tokens[k].equals(";")) {
                bad(call, ahead + (number ? "from" : ";"), 1, ahead.length());
            }
        }
    }

    private static void tokensLeftOut() {
        Check.sentence("Terms I: SYNTAX: a TOKEN is left out");
        bad("skipper", "force above 1 do wait;", 1, 0);
        bad("skipper", "when above 1 do wait;", 1, 5);
        bad("skipper", "when force 1 do wait;", 1, 11);
        bad("skipper", "when force above do wait;", 1, 17);
        bad("skipper", "when force above 1 wait;", 1, 19);
        bad("skipper", "when force above 1 do;", 1, 21);
        bad("skipper", "when force above 1 do wait when", 1, 27);
        bad("insurer", "0 1 2 3 from 4 to 5;", 1, 0);
        bad("insurer", "box 1 2 3 from 4 to 5;", 1, 10);
        bad("insurer", "box 0 1 2 3 4 to 5;", 1, 12);
        bad("insurer", "box 0 1 2 3 from to 5;", 1, 17);
        bad("insurer", "box 0 1 2 3 from 4 5;", 1, 19);
        bad("insurer", "box 0 1 2 3 from 4 to;", 1, 21);
        bad("insurer", "box 0 1 2 3 from 4 to 5 box", 1, 24);
        bad("insurer", "1;", 1, 0);
        bad("insurer", "crew;", 1, 4);
        bad("insurer", "force;", 1, 5);
        bad("insurer", "crew 1 force 1;", 1, 7);
    }

    /** From each token on to each later one: the fault is at the later one, if it does not fit there too. */
    private static void tokensSkipped() {
        Check.sentence("Terms I: SYNTAX: TOKENS are left out");
        skipEach("skipper", "when force above 1 do wait ;");
        skipEach("insurer", "box 0 1 2 3 from 4 to 5 ;");
        skipEach("insurer", "crew 1 ;");
    }

    private static void skipEach(String call, String line) {
        String[] tokens = line.split(" ");
        for (int k = 0; k < tokens.length; k++) {
            String ahead = k == 0 ? "" : String.join(" ", Arrays.copyOf(tokens, k)) + " ";
            for (int j = k + 1; j < tokens.length; j++) {
                boolean fits = Character.isDigit(tokens[k].charAt(0)) && Character.isDigit(tokens[j].charAt(0));
                if (!fits) {
                    bad(call, ahead + String.join(" ", Arrays.copyOfRange(tokens, j, tokens.length)), 1, ahead.length());
                }
            }
        }
    }

    private static void tokensTwice() {
        Check.sentence("Terms I: SYNTAX: a TOKEN stands twice");
        bad("skipper", "when when force above 1 do wait;", 1, 5);
        bad("skipper", "when force force above 1 do wait;", 1, 11);
        bad("skipper", "when force above above 1 do wait;", 1, 17);
        bad("skipper", "when force above below 1 do wait;", 1, 17);
        bad("skipper", "when force above 1 1 do wait;", 1, 19);
        bad("skipper", "when force above 1 do do wait;", 1, 22);
        bad("skipper", "when force above 1 do wait turn;", 1, 27);
        bad("skipper", "when force above 1 do wait;;", 1, 27);
        bad("insurer", "box box 0 1 2 3 from 4 to 5;", 1, 4);
        bad("insurer", "box 0 1 2 3 from from 4 to 5;", 1, 17);
        bad("insurer", "box 0 1 2 3 from 4 4 to 5;", 1, 19);
        bad("insurer", "box 0 1 2 3 from 4 to to 5;", 1, 22);
        bad("insurer", "box 0 1 2 3 from 4 to 5 5;", 1, 24);
        bad("insurer", "crew crew 1;", 1, 5);
        bad("insurer", "crew 1;;", 1, 7);
        bad("insurer", ";", 1, 0);
        bad("skipper", ";", 1, 0);
    }

    private static void atTheTextsEnd() {
        Check.sentence("Terms I: PLACE: the text's length at its end");
        bad("skipper", "when", 1, 4);
        bad("skipper", "when \n ", 1, 7);
        bad("skipper", "when force above 1 do wait", 1, 26);
        bad("skipper", RULE + "when force above 1 do wait   ", 1, 56);
        bad("insurer", "crew 1", 1, 6);
        bad("insurer", BOX + "\n\nbox 0 0 0 0 from 0 to 0\n", 1, 50);
    }

    private static void bytesThatAreNoToken() {
        Check.sentence("Terms I: SYNTAX: or byte that is none");
        for (int c = 0; c < 256; c++) {
            if (c != 32 && c != 10) {
                bad("skipper", " " + (char) c, 1, 1);
                bad("insurer", "crew 1; " + (char) c, 1, 8);
            }
        }
    }

    private static void firstFaultAlone() {
        Check.sentence("Terms I: the first come to as TOKENS are read one by one");
        bad("insurer", "box 30 20 30 20 from 360 to 360; crew 10; x", 2, 4);
        bad("insurer", "crew 1; crew 10; ?", 3, 8);
        bad("insurer", "crew 10; crew 10;", 2, 5);
        bad("insurer", "crew x; crew 1;", 1, 5);
        bad("insurer", "crew 12345 ?", 1, 5);
        bad("skipper", "when x " + RULE.repeat(13), 1, 5);
    }

    private static void leastKind() {
        Check.sentence("Terms I: of one TOKEN the least KIND");
        bad("insurer", "crew 10 10;", 2, 5);
        bad("insurer", "crew 99999;", 1, 5);
        bad("insurer", "box 99999 0 0 0 from 0 to 0;", 1, 4);
        bad("insurer", "box 0 0 0 0 0 from 0 to 0;", 1, 12);
        bad("insurer", "box 0 0 0 0 9999;", 1, 12);
    }

    private static void twice() {
        Check.sentence("Terms I: TWICE: a second crew, force, at its WORD");
        good("insurer", "crew 1;force 1;", 2);
        good("insurer", "force 1;crew 1;", 2);
        bad("insurer", "crew 1;crew 1;", 3, 7);
        bad("insurer", "force 1;force 1;", 3, 8);
        bad("insurer", "crew 0;crew 0;", 3, 7);
        bad("insurer", "force 9;force 9;", 3, 8);
        bad("insurer", "crew 1;force 1;" + BOX + "crew", 3, 39);
        bad("insurer", "crew 1;force 1;" + BOX + "force;", 3, 39);
        good("insurer", BOX + BOX, 2);
    }

    private static void tapeIsEmptyThen() {
        Check.run("Promise 9: THE TAPE (read, and empty then)", "tape " + RULE, "skipper 0 = 1", "count 3 = 0", "skipper 0 = 0", "count 10 = 0");
        Check.run("Promise 10: likewise", "tape crew 3;", "insurer 0 = 1", "count 3 = 0", "covers 0 0 0 2 0 = 0", "insurer 0 = 0",
            "covers 0 0 0 2 0 = 1");
        Check.run("Promise 2: a new text from byte 0 on", "tape " + RULE, "skipper 0 = 1", "feed" + FIVE_BLANKS + " = 20", "feed 0 0 0 0 0 = 40",
            "skipper 0 = -1", "fault 1 = 20");
    }

    private static void rangeReadsNothing() {
        Check.run("Promise 9: RANGE: no such BOAT", "tape x", "skipper 0 = -1", "tape " + RULE + " ?", "skipper 6 = -2", "skipper -1 = -2",
            "count 3 = 29", "fault 0 = 1", "fault 1 = 0", "skipper 5 = -1", "fault 1 = 28");
        Check.run("Promise 10: RANGE: no such BOAT", "tape x", "insurer 0 = -1", "tape crew 1; ?", "insurer 6 = -2", "insurer -1 = -2",
            "count 3 = 9", "fault 0 = 1", "fault 1 = 0", "insurer 5 = -1", "fault 1 = 8");
        Check.run("Promise 11: RANGE ahead of any other", "skipper 6 = -2", "insurer 6 = -2", "fault 0 = 0", "fault 1 = -1");
    }

    private static void textOfBeforeStays() {
        Check.run("Promise 9: NONE with a FAULT (the text of before stays)", "tape when day above 0 do end; when force below 1 do wait;",
            "skipper 0 = 2", "tape when force below 1 do end; when force below 1 do end; when force below 1 do end; x", "skipper 0 = -1",
            "count 10 = 2", "begin 0 0 0 1 = 1", "place 0 100 = 1", "sail 0 9 = 4", "passage 0 6 = 4", "passage 0 0 = 2");
        Check.run("Promise 10: NONE with a FAULT (the text of before stays)", "tape crew 2; box 1 1 2 2 from 3 to 4; force 5;", "insurer 0 = 3",
            "tape box 5 5 5 5 from 5 to 5; box 6 6 6 6 from 6 to 6; force 9; crew 0; crew", "insurer 0 = -1", "count 20 = 1",
            "covers 0 0 0 2 5 = 1", "covers 0 0 0 1 5 = 0", "covers 0 0 0 2 6 = 0", "covers 0 101 3 2 5 = 0", "covers 0 505 5 2 5 = 1");
        Check.run("Promise 9: of this BOAT, of this text alone", "tape " + RULE, "skipper 1 = 1", "tape " + BOX, "insurer 1 = 1",
            "count 10 = 0", "count 11 = 1", "count 12 = 0", "count 20 = 0", "count 21 = 1", "count 22 = 0", "end 0 = 0", "skipper 1 = 0",
            "count 21 = 1", "tape " + RULE + RULE, "skipper 0 = 2", "count 11 = 0");
    }

    private static void nothingIsLeftOfOtherTexts() {
        Check.run("Promise 9: the text is THE TAPE alone, not what stood there before", "tape when force below 9 do end; when force below 9 do end;",
            "skipper 0 = 2", "tape when force above 8 do wait;", "skipper 0 = 1", "tape when force above 7 do wait;", "skipper 0 = 1", "count 10 = 1",
            "begin 0 0 0 1 = 1", "place 0 900 = 1", "sail 0 2 = 2", "passage 0 0 = 0");
        Check.run("Promise 9: nor what had a FAULT", "tape when force below 9 do end; when force below 9 do end; x", "skipper 0 = -1",
            "tape when force above 8 do wait;", "skipper 0 = 1", "count 10 = 1", "begin 0 0 0 1 = 1", "place 0 900 = 1", "sail 0 2 = 2",
            "passage 0 0 = 0");
        Check.run("Promise 10: the text is THE TAPE alone, not what stood there before", "tape box 0 0 9 9 from 0 to 359; crew 5; force 5;", "insurer 0 = 3",
            "tape crew 1;", "insurer 0 = 1", "count 20 = 0", "tape box 3 3 3 3 from 0 to 359;", "insurer 0 = 1", "count 20 = 1", "covers 0 0 0 0 9 = 1",
            "covers 0 303 0 0 9 = 0", "end 0 = 0", "insurer 0 = 0", "covers 0 303 0 0 9 = 1", "covers 0 0 0 0 9 = 1", "count 20 = 0");
        Check.run("Promise 10: nor what had a FAULT", "tape box 0 0 9 9 from 0 to 359; crew 5; force 5; x", "insurer 0 = -1",
            "tape box 3 3 3 3 from 0 to 359; crew 1; force 8;", "insurer 0 = 3", "count 20 = 1", "covers 0 0 0 1 8 = 1", "covers 0 303 0 1 8 = 0",
            "tape box 0 0 9 9 from 0 to 359; crew 5; force 5; x", "insurer 1 = -1", "end 0 = 0", "insurer 1 = 0", "covers 1 0 0 0 9 = 1", "count 21 = 0");
    }

    private static void linesAreCounted() {
        Check.sentence("Promise 10: how many lines");
        good("insurer", "crew 1;", 1);
        good("insurer", "force 1;" + BOX + "crew 1;", 3);
        good("insurer", BOX.repeat(3), 3);
        Check.run("Promise 24: boxes, not lines", "tape crew 1;" + BOX + BOX + "force 1;", "insurer 3 = 4", "count 23 = 2");
    }

    private static void faultIsOfTheLatest() {
        Check.run("Promise 11: of the latest skipper() or insurer()", "tape x", "skipper 0 = -1", "fault 0 = 1", "tape crew 10;", "insurer 3 = -1",
            "fault 0 = 2", "fault 1 = 5", "tape crew 1;crew", "insurer 0 = -1", "fault 0 = 3", "fault 1 = 7", "end 0 = 0", "fault 0 = 3",
            "skipper 1 = 0", "fault 0 = 0", "fault 1 = -1");
    }

    private static void faultWhats() {
        Check.run("Promise 11: NONE for another what", "tape  x", "skipper 0 = -1", "fault -1 = -1", "fault 2 = -1", "fault 2147483647 = -1",
            "fault -2147483648 = -1", "fault 0 = 1", "fault 1 = 1");
        Check.run("Promise 11: ahead of any", "fault 0 = 0", "fault 1 = -1", "fault 2 = -1", "fault -1 = -1");
    }

    private static void boatsBounds() {
        Check.sentence("Promises 9, 10: RANGE: no such BOAT");
        Check.bounds(Desk::new, "skipper", -2, new int[] {0}, 0, 5);
        Check.bounds(Desk::new, "insurer", -2, new int[] {0}, 0, 5);
    }
}
