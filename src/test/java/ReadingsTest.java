/** Sentences that can be read in more than one way, held to the reading that README.md tells. */
public final class ReadingsTest {
    public static void main(String[] args) {
        turnsToWhereThePortIsThen();
        turnsAtItsPort();
        turnedAndLaterRules();
        tapeIsEmptyBehindAFault();
        fullAheadOfRules();
        oneFlightAtATime();
        Check.finish();
    }

    private static void turnsToWhereThePortIsThen() {
        Check.run("the place of the PORT where it began is the one that it has as the BOAT turns", "steady 0 10", "tape when day above 0 do turn;",
            "skipper 0 = 1", "begin 0 0 0 1 = 1", "place 0 2900 = 1", "sail 0 4 = 4", "port 0 402 = 0", "sail 0 1 = 1", "passage 0 4 = 1",
            "passage 0 2 = 401", "port 0 0 = 402", "sail 0 9 = 1", "trip 0 = 1 6 402 0 1 6 0 0 6 0 -1");
    }

    private static void turnsAtItsPort() {
        Check.run("what it has gone becomes 0 behind a cell alone", "steady 0 1", "tape when day above 0 do turn;", "skipper 0 = 1", "begin 0 0 0 1 = 1",
            "place 0 2900 = 1", "sail 0 9 = 5", "trip 0 = 1 5 0 4 1 0 0 0 5 0 -1");
    }

    private static void turnedAndLaterRules() {
        Check.run("a turn that is spent goes on without looking at later rules", "steady 0 10", "tape when day above 0 do turn; when day above 0 do end;",
            "skipper 0 = 2", "begin 0 0 0 1 = 1", "place 0 2900 = 1", "sail 0 99 = 8", "passage 0 0 = 1");
    }

    private static void tapeIsEmptyBehindAFault() {
        Check.run("THE TAPE is read and empty then, with a FAULT too", "tape when", "skipper 0 = -1", "count 3 = 0", "tape crew", "insurer 0 = -1",
            "count 3 = 0");
    }

    private static void fullAheadOfRules() {
        Check.run("with a full LOG no rule is looked at", "begin 0 0 0 1 = 1", "place 0 2900 = 1", "5* sail 0 400 = 400", "tape when day above 0 do end;",
            "skipper 0 = 1", "sail 0 1 = -3", "passage 0 0 = 0");
    }

    private static void oneFlightAtATime() {
        Check.run("a CREW takes one told FLIGHT to a DELIVERY's PORT, not one behind another", "crew 0 0 0 = 1", "flight 0 1 1 = -1", "flight 1 2 1 = -1",
            "deliver 2 3 1 0 999 = 0", "plan = 0", "flight 0 2 10000 = -1", "plan = 1", "planned 0 = 10000", "planned 20 = 1");
    }
}
