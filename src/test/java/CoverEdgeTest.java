/** Each sentence on a bound of what is COVERED (Terms II, promise 12). */
public final class CoverEdgeTest {
    public static void main(String[] args) {
        bounds();
        crewNotBelow();
        forceNotAbove();
        crewAndForceTogether();
        bothCornersAreInIt();
        whicheverWayTheyLie();
        aBoxOfOneCell();
        fromTo();
        overTheEndOfTheYear();
        aWholeYear();
        oneDate();
        anyOfTwelveBoxes();
        eachBoatItsOwn();
        whereTheWatchBegins();
        theForceThere();
        theDateOfTheWatch();
        theCrewOfThePassage();
        everyWatchIsLookedAt();
        theFirstThatWasNot();
        Check.finish();
    }

    private static void bounds() {
        Check.sentence("Promise 12: RANGE");
        Check.bounds(Desk::new, "covers", -2, new int[] {0, 0, 0, 0, 0}, 0, 5, 0, 19, 0, 999, 0, 9, 0, 9);
        Check.places(Desk::new, "covers", -2, new int[] {0, 0, 0, 0, 0}, 1);
    }

    private static void crewNotBelow() {
        for (int crew = 0; crew <= 9; crew++) {
            Desk x = Check.run("COVERED: the crew isn't below crew", "tape crew " + crew + ";", "insurer 0 = 1");
            for (int n = 0; n <= 9; n++) {
                Check.run(x, "covers 0 0 0 " + n + " 9 = " + (n < crew ? 0 : 1));
            }
        }
    }

    private static void forceNotAbove() {
        for (int force = 0; force <= 9; force++) {
            Desk x = Check.run("COVERED: the force not above force", "tape force " + force + ";", "insurer 0 = 1");
            for (int n = 0; n <= 9; n++) {
                Check.run(x, "covers 0 0 0 0 " + n + " = " + (n > force ? 0 : 1));
            }
        }
    }

    private static void crewAndForceTogether() {
        Check.run("COVERED: both must hold", "tape crew 4; force 4;", "insurer 0 = 2", "covers 0 0 0 4 4 = 1", "covers 0 0 0 3 4 = 0",
            "covers 0 0 0 4 5 = 0", "covers 0 0 0 3 5 = 0", "covers 0 0 0 9 0 = 1");
    }

    private static void around(String words, String box, int left, int top, int right, int bottom) {
        Desk x = Check.run(words, "tape " + box, "insurer 0 = 1");
        for (int column = Math.max(0, left - 1); column <= Math.min(29, right + 1); column++) {
            for (int row = Math.max(0, top - 1); row <= Math.min(19, bottom + 1); row++) {
                boolean in = column >= left && column <= right && row >= top && row <= bottom;
                Check.run(x, "covers 0 " + (100 * column + row) + " 7 0 0 = " + (in ? 0 : 1));
            }
        }
    }

    private static void bothCornersAreInIt() {
        around("COVERED: both corners in it", "box 3 4 6 9 from 0 to 359;", 3, 4, 6, 9);
        around("COVERED: a box at the sea's beginning", "box 0 0 2 1 from 0 to 359;", 0, 0, 2, 1);
        around("COVERED: a box at the sea's end", "box 27 18 29 19 from 0 to 359;", 27, 18, 29, 19);
    }

    private static void whicheverWayTheyLie() {
        around("COVERED: whichever way they lie, COLUMNS", "box 6 4 3 9 from 0 to 359;", 3, 4, 6, 9);
        around("COVERED: whichever way they lie, ROWS", "box 3 9 6 4 from 0 to 359;", 3, 4, 6, 9);
        around("COVERED: whichever way they lie, both", "box 6 9 3 4 from 0 to 359;", 3, 4, 6, 9);
    }

    private static void aBoxOfOneCell() {
        around("COVERED: a box of one cell", "box 5 5 5 5 from 0 to 359;", 5, 5, 5, 5);
    }

    private static void fromTo() {
        Check.run("COVERED: on a date from .. to", "tape box 0 0 0 0 from 30 to 59;", "insurer 0 = 1", "covers 0 0 29 0 0 = 1",
            "covers 0 0 30 0 0 = 0", "covers 0 0 59 0 0 = 0", "covers 0 0 60 0 0 = 1", "covers 0 0 389 0 0 = 1", "covers 0 0 390 0 0 = 0",
            "covers 0 0 419 0 0 = 0", "covers 0 0 420 0 0 = 1", "covers 0 0 749 0 0 = 1", "covers 0 0 750 0 0 = 0", "covers 0 0 779 0 0 = 0",
            "covers 0 0 780 0 0 = 1");
    }

    private static void overTheEndOfTheYear() {
        Check.run("COVERED: over the end of the year, if to is below from", "tape box 0 0 0 0 from 350 to 10;", "insurer 0 = 1",
            "covers 0 0 349 0 0 = 1", "covers 0 0 350 0 0 = 0", "covers 0 0 359 0 0 = 0", "covers 0 0 360 0 0 = 0", "covers 0 0 0 0 0 = 0",
            "covers 0 0 10 0 0 = 0", "covers 0 0 11 0 0 = 1", "covers 0 0 370 0 0 = 0", "covers 0 0 371 0 0 = 1", "covers 0 0 180 0 0 = 1",
            "covers 0 0 709 0 0 = 1", "covers 0 0 710 0 0 = 0", "covers 0 0 730 0 0 = 0", "covers 0 0 731 0 0 = 1");
    }

    private static void aWholeYear() {
        Check.run("COVERED: to one below from is the whole year", "tape box 0 0 0 0 from 100 to 99;", "insurer 0 = 1", "covers 0 0 99 0 0 = 0",
            "covers 0 0 100 0 0 = 0", "covers 0 0 101 0 0 = 0", "covers 0 0 0 0 0 = 0", "covers 0 0 359 0 0 = 0");
        Check.run("COVERED: from 0 to 359 is the whole year", "tape box 0 0 0 0 from 0 to 359;", "insurer 0 = 1", "covers 0 0 0 0 0 = 0",
            "covers 0 0 359 0 0 = 0", "covers 0 0 360 0 0 = 0", "covers 0 0 999 0 0 = 0");
        Check.run("COVERED: from 359 to 0 is two dates", "tape box 0 0 0 0 from 359 to 0;", "insurer 0 = 1", "covers 0 0 358 0 0 = 1",
            "covers 0 0 359 0 0 = 0", "covers 0 0 360 0 0 = 0", "covers 0 0 361 0 0 = 1");
    }

    private static void oneDate() {
        Check.run("COVERED: from and to alike are one date", "tape box 0 0 0 0 from 100 to 100;", "insurer 0 = 1", "covers 0 0 99 0 0 = 1",
            "covers 0 0 100 0 0 = 0", "covers 0 0 101 0 0 = 1", "covers 0 0 460 0 0 = 0", "covers 0 0 461 0 0 = 1");
    }

    private static void anyOfTwelveBoxes() {
        StringBuilder text = new StringBuilder();
        for (int k = 0; k < 12; k++) {
            text.append("box ").append(2 * k).append(" 0 ").append(2 * k).append(" 0 from 0 to 359;");
        }
        Desk x = Check.run("COVERED: the place in no box", "tape " + text, "insurer 0 = 12");
        for (int column = 0; column < 30; column++) {
            Check.run(x, "covers 0 " + 100 * column + " 0 0 0 = " + (column % 2 == 0 && column < 24 ? 0 : 1));
        }
    }

    private static void eachBoatItsOwn() {
        Check.run("Promise 12: BOAT b would be COVERED", "tape crew 5;", "insurer 5 = 1", "covers 5 0 0 4 0 = 0", "covers 4 0 0 4 0 = 1",
            "covers 0 0 0 0 0 = 1");
    }

    private static void whereTheWatchBegins() {
        Check.run("COVERED: by where the BOAT is as it begins", "steady 0 10", "tape box 1 0 1 0 from 0 to 359;", "insurer 0 = 1",
            "begin 0 0 0 1 = 1", "place 0 500 = 1", "sail 0 1 = 1", "passage 0 2 = 100", "passage 0 7 = 0", "sail 0 1 = 1", "passage 0 7 = 1",
            "passage 0 10 = 1", "sail 0 1 = 1", "passage 0 7 = 1");
    }

    private static void theForceThere() {
        Check.run("COVERED: and the force there", "port 0 400 = 0", "steady 0 10", "wind 1 0 0 6 = 0", "tape force 5;", "insurer 0 = 1",
            "begin 0 0 0 1 = 1", "place 0 900 = 1", "sail 0 1 = 1", "passage 0 2 = 500", "passage 0 7 = 0", "sail 0 1 = 1", "passage 0 7 = 1",
            "wind 1 0 0 5 = 6", "sail 0 1 = 1", "passage 0 7 = 1");
    }

    private static void theDateOfTheWatch() {
        Check.run("COVERED: on the date of the WATCH", "tape box 0 0 0 0 from 0 to 0;", "insurer 0 = 1", "begin 0 0 358 1 = 1",
            "place 0 100 = 1", "sail 0 8 = 8", "passage 0 7 = 0", "sail 0 4 = 4", "passage 0 7 = 4", "passage 0 10 = 8", "sail 0 4 = 4",
            "passage 0 7 = 4");
    }

    private static void theCrewOfThePassage() {
        Check.run("COVERED: the crew of the PASSAGE", "tape crew 3;", "insurer 0 = 1", "begin 0 0 0 3 = 1", "place 0 0 = 1", "sail 0 1 = 1",
            "passage 0 7 = 0", "begin 0 0 0 2 = 1", "place 0 0 = 1", "sail 0 1 = 1", "passage 0 7 = 1");
    }

    private static void everyWatchIsLookedAt() {
        Check.run("COVERED: a WATCH in which it waits, too", "tape crew 2;", "insurer 0 = 1", "tape when force below 1 do wait;", "skipper 0 = 1",
            "begin 0 0 0 1 = 1", "place 0 100 = 1", "sail 0 3 = 3", "passage 0 6 = 3", "passage 0 7 = 3");
        Check.run("COVERED: the last WATCH, too", "tape crew 2;", "insurer 0 = 1", "begin 0 0 0 1 = 1", "place 0 0 = 1", "sail 0 3 = 1",
            "passage 0 0 = 1", "passage 0 7 = 1", "passage 0 10 = 0");
        Check.run("COVERED: GIVEN UP is no WATCH", "tape crew 2;", "insurer 0 = 1", "tape when force below 1 do end;", "skipper 0 = 1",
            "begin 0 0 0 1 = 1", "place 0 100 = 1", "sail 0 3 = 0", "passage 0 7 = 0", "passage 0 10 = -1");
    }

    private static void theFirstThatWasNot() {
        Check.run("Promise 16: the first WATCH that was not COVERED (from 0 on; NONE)", "begin 0 0 0 1 = 1", "place 0 100 = 1", "sail 0 5 = 5",
            "passage 0 10 = -1", "tape crew 2;", "insurer 0 = 1", "sail 0 1 = 1", "passage 0 10 = 5", "sail 0 1 = 1", "passage 0 10 = 5",
            "end 0 = 0", "insurer 0 = 0", "sail 0 1 = 1", "passage 0 10 = 5", "passage 0 7 = 2");
    }
}
