import java.util.function.Supplier;

/** Each sentence on a bound of passages (Terms II, promises 13 to 17). */
public final class PassageEdgeTest {
    public static void main(String[] args) {
        beginBounds();
        oneAtATime();
        whatWasOfTheOneBefore();
        goneOfTheOneBefore();
        placeBounds();
        placeStates();
        theNinth();
        sailBounds();
        emptyWay();
        asLongAsItGoesOn();
        watchByWatch();
        theLog();
        endsWhenFull();
        passageWhats();
        boatWhats();
        seenForce();
        seenWater();
        seenDay();
        seenBroken();
        notAlike();
        firstRuleThatHolds();
        waiting();
        turning();
        turningHomeToEachPort();
        turnedAlready();
        ending();
        placesAtWhichItIs();
        arrivingWithoutACell();
        coursesBySigns();
        tenOrMore();
        courseByThen();
        goneIsZero();
        lastWatchToo();
        enoughForAll();
        partsLoseOne();
        Check.finish();
    }

    /** All boats on a passage with a way, none of it worked. */
    private static Desk allBegun() {
        Desk x = new Desk();
        for (int b = 0; b < 6; b++) {
            x.begin(b, 0, 0, 1);
            x.place(b, 2900);
        }
        return x;
    }

    private static void beginBounds() {
        Check.sentence("Promise 13: at a PORT, on a day (0 .. 499), with a crew of 1 .. 9");
        Check.bounds(Desk::new, "begin", -2, new int[] {0, 0, 0, 1}, 0, 5, 0, 9, 0, 499, 1, 9);
        Check.run("Promise 13: RANGE begins nothing", "begin 0 0 500 1 = -2", "begin 0 0 0 0 = -2", "begin 0 10 0 1 = -2", "passage 0 0 = -9",
            "sail 0 1 = -4", "place 0 0 = -4");
    }

    private static void oneAtATime() {
        Check.run("Terms II: one at a time each", "begin 0 0 0 1 = 1", "begin 0 0 0 1 = -4", "begin 1 0 0 1 = 1", "begin 5 0 0 1 = 1");
        Check.run("Promise 13: STATE: it is on one that goes on", "port 1 505 = 0", "begin 0 0 0 1 = 1", "place 0 100 = 1", "sail 0 3 = 3",
            "begin 0 1 9 9 = -4", "trip 0 = 0 3 0 0 0 0 0 0 3 1 -1", "begin 0 10 0 1 = -2");
        Check.run("Promise 13: one that ARRIVED goes on no more", "begin 0 0 0 1 = 1", "place 0 0 = 1", "sail 0 1 = 1", "begin 0 0 0 1 = 1",
            "begin 0 0 0 1 = -4");
        Check.run("Promise 13: one that is GIVEN UP goes on no more", "tape when day below 1 do end;", "skipper 0 = 1", "begin 0 0 0 1 = 1",
            "place 0 100 = 1", "sail 0 1 = 0", "passage 0 0 = 2", "begin 0 0 0 1 = 1", "passage 0 0 = 0");
    }

    private static void whatWasOfTheOneBefore() {
        Check.run("Promise 13: Its way is empty; what was of the one before is gone", "port 1 2919 = 0", "steady 0 7",
            "tape when day above 0 do turn; when force above 4 do wait;", "skipper 0 = 2", "tape crew 9;", "insurer 0 = 1", "wind 0 0 2 5 = 0",
            "begin 0 0 0 2 = 1", "place 0 900 = 1", "sail 0 2 = 2", "wind 0 0 2 0 = 25", "sail 0 9 = 3",
            "trip 0 = 1 5 0 0 1 2 2 5 5 0 0", "begin 0 1 30 3 = 1", "trip 0 = 0 0 2919 0 0 0 0 0 0 0 -1", "sail 0 1 = -4", "place 0 2819 = 1",
            "pay 0 0 100 10 1 = 0", "count 10 = 2", "count 20 = 0", "boat 0 10 = 9995", "sail 0 1 = 1", "trip 0 = 0 1 2919 7 0 0 0 1 1 1 0");
    }

    private static void goneOfTheOneBefore() {
        Check.run("Promise 13: what the one before has gone is gone", "steady 0 9", "tape when day above 0 do end;", "skipper 0 = 1", "begin 0 0 0 1 = 1",
            "place 0 900 = 1", "sail 0 9 = 4", "trip 0 = 2 4 300 6 0 3 0 0 4 1 -1", "begin 0 0 0 1 = 1", "passage 0 3 = 0", "place 0 900 = 1",
            "sail 0 1 = 1", "trip 0 = 0 1 0 9 0 0 0 0 1 1 -1");
    }

    private static void placeBounds() {
        Check.sentence("Promise 14: RANGE");
        Check.bounds(PassageEdgeTest::allBegun, "place", -2, new int[] {0, 0}, 0, 5, 0, 19);
        Check.places(PassageEdgeTest::allBegun, "place", -2, new int[] {0, 0}, 1);
        Check.run("Promise 14: RANGE adds none", "begin 0 0 0 1 = 1", "place 0 20 = -2", "place 0 -1 = -2", "place 0 3000 = -2", "passage 0 9 = 0",
            "sail 0 1 = -4", "place 0 0 = 1");
    }

    private static void placeStates() {
        Check.run("Promise 14: STATE: no PASSAGE that goes on", "place 0 0 = -4", "begin 1 0 0 1 = 1", "place 0 0 = -4", "place 1 0 = 1",
            "sail 1 1 = 1", "passage 1 0 = 1", "place 1 0 = -4", "passage 1 9 = 0");
        Check.run("Promise 14: STATE: GIVEN UP ahead of its first WATCH", "tape when day below 1 do end;", "skipper 0 = 1", "begin 0 0 0 1 = 1",
            "place 0 100 = 1", "sail 0 1 = 0", "place 0 100 = -4", "passage 0 9 = 1");
        Check.run("Promise 14: STATE: or a WATCH of it was worked", "begin 0 0 0 1 = 1", "place 0 100 = 1", "place 0 200 = 2", "sail 0 1 = 1",
            "place 0 300 = -4", "passage 0 9 = 2", "passage 0 0 = 0");
    }

    private static void theNinth() {
        Check.run("Promise 14: FULL: the ninth", "begin 0 0 0 1 = 1", "place 0 100 = 1", "place 0 200 = 2", "place 0 300 = 3", "place 0 400 = 4",
            "place 0 300 = 5", "place 0 200 = 6", "place 0 100 = 7", "place 0 0 = 8", "place 0 2919 = -3", "passage 0 9 = 8", "place 0 2920 = -2",
            "steady 0 40", "sail 0 9 = 2", "trip 0 = 1 2 0 0 0 8 0 0 2 0 -1");
        Check.run("Promise 14: each BOAT has its own way", "begin 0 0 0 1 = 1", "begin 1 0 0 1 = 1", "place 0 100 = 1", "place 1 200 = 1",
            "place 0 300 = 2", "passage 1 9 = 1", "passage 0 9 = 2");
    }

    private static void sailBounds() {
        Check.sentence("Promise 15: so many WATCHES (1 .. 400)");
        Check.bounds(PassageEdgeTest::allBegun, "sail", -2, new int[] {0, 1}, 0, 5, 1, 400);
        Check.run(allBegun(), "sail 0 0 = -2", "sail 0 401 = -2", "passage 0 1 = 0", "count 0 = 0", "sail 0 400 = 400", "passage 0 1 = 400",
            "count 0 = 400", "sail 5 1 = 1", "count 0 = 401");
    }

    private static void emptyWay() {
        Check.run("Promise 15: STATE: no PASSAGE that goes on", "sail 0 1 = -4", "begin 1 0 0 1 = 1", "place 1 0 = 1", "sail 0 1 = -4",
            "sail 1 1 = 1", "sail 1 1 = -4", "sail 1 0 = -2", "count 0 = 1");
        Check.run("Promise 15: STATE: or its way was empty from the beginning", "begin 0 0 0 1 = 1", "sail 0 1 = -4", "sail 0 400 = -4",
            "trip 0 = 0 0 0 0 0 0 0 0 0 0 -1", "boat 0 10 = 10000", "place 0 0 = 1", "sail 0 1 = 1", "passage 0 0 = 1");
    }

    private static void asLongAsItGoesOn() {
        Check.run("Promise 15: as long as it goes on: how many were", "steady 0 10", "begin 0 0 0 1 = 1", "place 0 300 = 1", "sail 0 400 = 3",
            "passage 0 1 = 3", "count 0 = 3");
        Check.run("Promise 15: none, if it is GIVEN UP at once", "tape when water below 1 do end;", "skipper 0 = 1", "begin 0 0 0 1 = 1",
            "place 0 300 = 1", "sail 0 400 = 0", "passage 0 0 = 2", "sail 0 1 = -4", "count 0 = 0");
    }

    private static void watchByWatch() {
        Check.sentence("Terms II: It goes WATCH by WATCH");
        Supplier<Desk> ready = () -> Check.run(new Desk(), "steady 0 13", "wind 1 0 4 7 = 0", "tape when day above 2 do turn; when water below 9 do wait;",
            "skipper 0 = 2", "tape box 2 0 6 4 from 1 to 1; crew 2;", "insurer 0 = 2", "water 0 40 = 0", "lasts 0 1 6 = 10000", "begin 0 0 0 3 = 1",
            "place 0 703 = 1", "place 0 2909 = 2");
        Desk one = Check.run(ready.get(), "sail 0 20 = 20");
        Desk each = Check.run(ready.get(), "20* sail 0 1 = 1");
        for (int what = 0; what <= 10; what++) {
            Check.due("passage(0, " + what + ")", each.passage(0, what), one.passage(0, what));
        }
        Check.due("water", each.boat(0, 0), one.boat(0, 0));
        Check.due("part 1", each.boat(0, 11), one.boat(0, 11));
    }

    private static void theLog() {
        Check.run("Terms II: LOG: at most 2000 WATCHES of all PASSAGES", "begin 0 0 0 1 = 1", "place 0 100 = 1", "begin 1 0 0 1 = 1", "place 1 100 = 1",
            "3* sail 0 400 = 400", "sail 1 400 = 400", "sail 1 399 = 399", "count 0 = 1999", "sail 0 1 = 1", "count 0 = 2000", "sail 0 1 = -3",
            "sail 1 400 = -3", "count 0 = 2000", "passage 0 1 = 1201", "passage 1 1 = 799", "passage 0 0 = 0", "passage 1 0 = 0");
        Check.run("Terms II: LOG: of PASSAGES that ended, too", "begin 0 0 0 1 = 1", "place 0 100 = 1", "4* sail 0 400 = 400", "sail 0 399 = 399",
            "begin 1 0 0 1 = 1", "place 1 0 = 1", "sail 1 9 = 1", "begin 1 0 0 1 = 1", "place 1 0 = 1", "sail 1 9 = -3", "passage 1 1 = 0",
            "passage 1 0 = 0", "count 0 = 2000");
    }

    private static void endsWhenFull() {
        Desk x = Check.run("Promise 15: it ends when it is FULL", "water 0 10000 = 0", "begin 0 0 0 1 = 1", "place 0 100 = 1", "4* sail 0 400 = 400",
            "sail 0 397 = 397", "sail 0 400 = 3", "count 0 = 2000", "boat 0 0 = 8000", "boat 0 10 = 8000", "passage 0 1 = 2000");
        Check.run(x, "sail 0 400 = -3", "boat 0 0 = 8000", "boat 0 10 = 8000", "passage 0 1 = 2000", "sail 1 1 = -4", "sail 0 401 = -2",
            "begin 1 0 0 1 = 1", "place 1 0 = 1", "sail 1 1 = -3");
    }

    private static void passageWhats() {
        Check.sentence("Promise 16: -9 when there is none such, or none was begun");
        Check.bounds(PassageEdgeTest::allBegun, "passage", -9, new int[] {0, 0}, 0, 5, 0, 10);
        Desk x = new Desk();
        x.begin(2, 0, 0, 1);
        for (int b = 0; b < 6; b++) {
            for (int what = 0; what <= 10; what++) {
                Check.due("passage(" + b + ", " + what + ")", x.passage(b, what), b != 2 ? -9 : what == 10 ? -1 : 0);
            }
        }
        Check.run("Promise 16: of the latest PASSAGE, ended or not", "steady 0 10", "begin 0 0 0 1 = 1", "place 0 100 = 1", "sail 0 9 = 1",
            "trip 0 = 1 1 100 0 0 1 0 0 1 0 -1", "begin 0 0 0 1 = 1", "trip 0 = 0 0 0 0 0 0 0 0 0 0 -1");
    }

    private static void boatWhats() {
        Check.sentence("Promise 17: -9 when there is none such");
        Check.bounds(Desk::new, "boat", -9, new int[] {0, 0}, 0, 5, 0, 1);
        Check.bounds(Desk::new, "boat", -9, new int[] {0, 10}, 0, 5, 10, 13);
        for (int what = 2; what < 10; what++) {
            Check.run("Promise 17: -9 when there is none such", "boat 0 " + what + " = -9");
        }
        Check.run("Promise 17: of a BOAT", "water 5 7 = 0", "lasts 5 0 1", "lasts 5 1 2", "lasts 5 2 3", "lasts 5 3 4", "boat 5 0 = 7", "boat 5 1 = 0",
            "boat 5 10 = 1", "boat 5 11 = 2", "boat 5 12 = 3", "boat 5 13 = 4", "boat 4 0 = 0", "boat 4 10 = 10000", "boat 4 13 = 10000");
    }

    private static void seenForce() {
        Check.run("Terms II: SEEN: the force where the BOAT is then", "port 0 400 = 0", "steady 0 10", "wind 1 0 0 6 = 0",
            "tape when force above 5 do wait;", "skipper 0 = 1", "begin 0 0 0 1 = 1", "place 0 900 = 1", "sail 0 1 = 1", "passage 0 2 = 500",
            "passage 0 6 = 0", "sail 0 2 = 2", "passage 0 2 = 500", "passage 0 6 = 2");
        Check.run("Terms II: SEEN: the force of that day's MONTH", "wind 0 1 0 6 = 0", "tape when force above 5 do wait;", "skipper 0 = 1",
            "begin 0 0 29 1 = 1", "place 0 900 = 1", "sail 0 4 = 4", "passage 0 6 = 0", "sail 0 1 = 1", "passage 0 6 = 1");
    }

    private static void seenWater() {
        Check.run("Terms II: SEEN: its WATER, ahead of what is drunk", "water 0 4 = 0", "tape when water below 2 do end;", "skipper 0 = 1",
            "begin 0 0 0 2 = 1", "place 0 900 = 1", "sail 0 9 = 2", "boat 0 0 = 0", "passage 0 0 = 2", "passage 0 8 = 0");
    }

    private static void seenDay() {
        Check.run("Terms II: SEEN: how many days ago it began (the whole part)", "tape when day above 0 do end;", "skipper 0 = 1",
            "begin 0 0 17 1 = 1", "place 0 900 = 1", "sail 0 9 = 4", "passage 0 0 = 2");
        Check.run("Terms II: SEEN: not the date", "tape when day below 1 do wait;", "skipper 0 = 1", "begin 0 0 499 1 = 1", "place 0 900 = 1",
            "sail 0 9 = 9", "passage 0 6 = 4");
        Check.run("Terms II: SEEN: days of waiting are days", "tape when day above 1 do end; when force below 1 do wait;", "skipper 0 = 2",
            "begin 0 0 0 1 = 1", "place 0 900 = 1", "sail 0 99 = 8", "passage 0 6 = 8");
    }

    private static void seenBroken() {
        Check.run("Terms II: SEEN: how many PARTS are broken", "lasts 0 0 0", "lasts 0 1 1", "lasts 0 2 2", "lasts 0 3 3",
            "tape when broken above 3 do end;", "skipper 0 = 1", "begin 0 0 0 1 = 1", "place 0 900 = 1", "sail 0 99 = 4", "boat 0 1 = 4",
            "passage 0 0 = 2");
        Check.run("Terms II: SEEN: a PART that lasts 0 is not broken yet", "lasts 0 0 0 = 10000", "tape when broken above 0 do end;", "skipper 0 = 1",
            "begin 0 0 0 1 = 1", "place 0 900 = 1", "sail 0 1 = 1", "boat 0 1 = 1", "sail 0 1 = 0", "passage 0 0 = 2");
    }

    /** Whether a rule holds, at once: force 5, water 50, 2 days ago, 2 parts broken. */
    private static void holds(String rule, int want) {
        Desk x = Check.run("Terms II: above, below: not alike: " + rule, "wind 0 0 0 5 = 0", "lasts 0 0 0", "lasts 0 3 0", "begin 0 0 0 1 = 1",
            "place 0 900 = 1", "sail 0 8 = 8", "water 0 50 = 0", "boat 0 1 = 2", "tape when " + rule + " do end;", "skipper 0 = 1");
        Check.run(x, "sail 0 1 = " + (1 - want), "passage 0 0 = " + 2 * want);
    }

    private static void notAlike() {
        String[] seen = {"force", "water", "day", "broken"};
        int[] numbers = {5, 50, 2, 2};
        for (int k = 0; k < 4; k++) {
            holds(seen[k] + " above " + (numbers[k] - 1), 1);
            holds(seen[k] + " above " + numbers[k], 0);
            holds(seen[k] + " above " + (numbers[k] + 1), 0);
            holds(seen[k] + " below " + (numbers[k] - 1), 0);
            holds(seen[k] + " below " + numbers[k], 0);
            holds(seen[k] + " below " + (numbers[k] + 1), 1);
            holds(seen[k] + " above 9999", 0);
            holds(seen[k] + " below 9999", 1);
            holds(seen[k] + " above 0", 1);
            holds(seen[k] + " below 0", 0);
        }
        Check.run("Terms II: WATER above 9999 is 10000 alone", "water 0 10000 = 0", "tape when water above 9999 do wait;", "skipper 0 = 1",
            "begin 0 0 0 1 = 1", "place 0 900 = 1", "sail 0 2 = 2", "passage 0 6 = 1", "boat 0 0 = 9998");
    }

    private static void firstRuleThatHolds() {
        Check.run("Terms II: The first rule that holds acts", "steady 0 10",
            "tape when force above 8 do end; when water below 5 do wait; when water below 5 do end; when force below 9 do turn;", "skipper 0 = 4",
            "begin 0 0 0 1 = 1", "place 0 900 = 1", "sail 0 1 = 1", "trip 0 = 0 1 0 0 0 0 1 0 1 1 -1", "water 0 6 = 0", "sail 0 1 = 1",
            "trip 0 = 1 2 0 0 1 0 1 0 1 0 -1");
        StringBuilder eleven = new StringBuilder("when force above 9 do end;".repeat(11));
        Check.run("Terms II: the twelfth rule, too", "tape " + eleven + "when force below 1 do wait;", "skipper 0 = 12", "begin 0 0 0 1 = 1",
            "place 0 900 = 1", "sail 0 2 = 2", "passage 0 6 = 2");
    }

    private static void waiting() {
        Check.run("Terms II: wait: it doesn't move", "steady 0 9", "begin 0 0 0 2 = 1", "place 0 0 = 1", "place 0 900 = 2",
            "tape when force below 1 do wait;", "skipper 0 = 1", "water 0 7 = 0", "sail 0 2 = 2", "trip 0 = 0 2 0 0 0 0 2 0 0 2 -1",
            "boat 0 0 = 3", "boat 0 12 = 9998", "end 0 = 0", "skipper 0 = 0", "sail 0 1 = 1", "trip 0 = 0 3 0 9 0 0 2 0 0 1 -1",
            "tape when force below 1 do wait;", "skipper 0 = 1", "sail 0 1 = 1", "trip 0 = 0 4 0 9 0 0 3 0 1 1 -1");
    }

    private static void turning() {
        Check.run("Terms II: turn: the place of the PORT is all of its way that is left", "port 0 303 = 0", "steady 0 10", "begin 0 0 0 1 = 1",
            "place 0 503 = 1", "place 0 703 = 2", "place 0 903 = 3", "sail 0 3 = 3", "passage 0 2 = 603", "passage 0 9 = 2",
            "tape when force below 1 do turn;", "skipper 0 = 1", "sail 0 1 = 1", "trip 0 = 0 4 503 0 1 4 0 0 4 1 -1", "end 0 = 0", "skipper 0 = 0",
            "sail 0 9 = 2", "trip 0 = 1 6 303 0 1 6 0 0 6 0 -1");
        Check.run("Terms II: turn: it moves in that WATCH, by what it has gone", "steady 0 15", "begin 0 0 0 1 = 1", "place 0 900 = 1", "sail 0 1 = 1",
            "passage 0 3 = 5", "tape when force below 1 do turn;", "skipper 0 = 1", "sail 0 1 = 1", "trip 0 = 1 2 0 0 1 2 0 0 2 0 -1");
    }

    private static void turningHomeToEachPort() {
        for (int p = 0; p < 10; p++) {
            Check.run("Terms II: turn: the PORT where it began, PORT " + p, "port " + p + " 1010 = 0", "steady 0 10", "begin 0 " + p + " 0 1 = 1",
                "place 0 2919 = 1", "tape when day above 0 do turn;", "skipper 0 = 1", "sail 0 99 = 8", "trip 0 = 1 8 1010 0 1 8 0 0 8 0 -1");
        }
    }

    private static void turnedAlready() {
        Check.run("Terms II: if it has turned already, it goes on as without a rule", "steady 0 10", "begin 0 0 0 1 = 1", "place 0 900 = 1", "sail 0 4 = 4",
            "tape when force below 1 do turn; when force below 1 do wait;", "skipper 0 = 2", "sail 0 9 = 4", "trip 0 = 1 8 0 0 1 8 0 0 8 0 -1");
        Check.run("Terms II: wait and end still act when it has turned", "steady 0 10", "begin 0 0 0 1 = 1", "place 0 900 = 1", "sail 0 4 = 4",
            "tape when force below 1 do turn;", "skipper 0 = 1", "sail 0 1 = 1", "passage 0 4 = 1", "tape when day below 2 do wait; when day above 1 do end;",
            "skipper 0 = 2", "sail 0 9 = 3", "trip 0 = 2 8 300 0 1 5 3 0 8 1 -1");
        Check.run("Terms II: a new PASSAGE has not turned", "steady 0 10", "tape when day above 0 do turn;", "skipper 0 = 1", "begin 0 0 0 1 = 1",
            "place 0 900 = 1", "sail 0 99 = 8", "passage 0 4 = 1", "begin 0 0 0 1 = 1", "passage 0 4 = 0", "place 0 900 = 1", "sail 0 99 = 8",
            "passage 0 4 = 1", "passage 0 0 = 1");
    }

    private static void ending() {
        Check.run("Terms II: end: nothing more is done: it is no WATCH then", "steady 0 15", "tape crew 2;", "insurer 0 = 1", "water 0 5 = 0",
            "tape when water below 4 do end;", "skipper 0 = 1", "begin 0 0 0 1 = 1", "place 0 900 = 1", "sail 0 9 = 2",
            "trip 0 = 2 2 300 0 0 3 0 2 0 1 0", "boat 0 0 = 3", "boat 0 10 = 9998", "count 0 = 2", "sail 0 9 = -4",
            "trip 0 = 2 2 300 0 0 3 0 2 0 1 0", "pay 0 0 100 1 0 = 98");
        Check.run("Terms II: end: at a place that would be its last one", "tape when force below 1 do end;", "skipper 0 = 1", "begin 0 0 0 1 = 1",
            "place 0 0 = 1", "sail 0 1 = 0", "passage 0 0 = 2", "passage 0 9 = 1");
    }

    private static void placesAtWhichItIs() {
        Check.run("Terms II: places of its way at which it is are passed", "begin 0 0 0 1 = 1", "3* place 0 0", "place 0 900 = 4", "place 0 900 = 5",
            "passage 0 9 = 5", "sail 0 1 = 1", "trip 0 = 0 1 0 0 0 0 0 0 1 2 -1");
        Check.run("Terms II: only the next ones, not one behind another", "begin 0 0 0 1 = 1", "place 0 900 = 1", "place 0 0 = 2", "sail 0 1 = 1",
            "passage 0 9 = 2");
        Check.run("Terms II: places are passed cell by cell", "steady 0 40", "begin 0 0 0 1 = 1", "place 0 100 = 1", "place 0 100 = 2", "place 0 200 = 3",
            "place 0 500 = 4", "sail 0 1 = 1", "trip 0 = 0 1 400 0 0 4 0 0 1 1 -1");
        Check.run("Terms II: a place at which it only goes by is not its next one", "steady 0 40", "begin 0 0 0 1 = 1", "place 0 400 = 1", "place 0 200 = 2",
            "sail 0 1 = 1", "trip 0 = 0 1 400 0 0 4 0 0 1 1 -1", "sail 0 1 = 1", "trip 0 = 1 2 200 0 0 6 0 0 2 0 -1");
    }

    private static void arrivingWithoutACell() {
        Check.run("Terms II: when none is left it has ARRIVED, ahead of any cell", "steady 0 40", "water 0 3 = 0", "begin 0 0 0 2 = 1", "8* place 0 0",
            "sail 0 400 = 1", "trip 0 = 1 1 0 0 0 0 0 0 0 0 -1", "boat 0 0 = 1", "boat 0 10 = 9999", "count 0 = 1");
    }

    private static void coursesBySigns() {
        int[] far = {1000, 2900, 2910, 2919, 1019, 19, 10, 0};
        int[] next = {1009, 1109, 1110, 1111, 1011, 911, 910, 909};
        for (int k = 0; k < 8; k++) {
            Check.run("Terms II: COLUMNS and ROWS by their signs, course " + k, "port 0 1010 = 0", "steady 0 10", "begin 0 0 0 1 = 1",
                "place 0 " + far[k] + " = 1", "sail 0 1 = 1", "passage 0 2 = " + next[k]);
        }
    }

    private static void tenOrMore() {
        int[] cells = {0, 0, 1, 1, 1, 2, 2, 3, 4};
        int[] tenths = {0, 9, 10, 11, 19, 20, 29, 30, 40};
        for (int k = 0; k < tenths.length; k++) {
            Check.run("Terms II: as long as that is ten or more: " + tenths[k], "steady 0 " + tenths[k], "begin 0 0 0 1 = 1", "place 0 900 = 1",
                "sail 0 1 = 1", "passage 0 2 = " + 100 * cells[k], "passage 0 5 = " + cells[k], "passage 0 3 = " + tenths[k] % 10);
        }
        Check.run("Terms II: the speed is added to what it has gone", "steady 0 9", "begin 0 0 0 1 = 1", "place 0 2900 = 1", "sail 0 1 = 1",
            "passage 0 3 = 9", "steady 0 1", "sail 0 1 = 1", "passage 0 3 = 0", "passage 0 5 = 1", "steady 0 9", "sail 0 1 = 1", "steady 0 40",
            "sail 0 1 = 1", "passage 0 3 = 9", "passage 0 5 = 5");
    }

    private static void courseByThen() {
        Check.run("Terms II: the course that it has by then, behind a place", "steady 0 40", "begin 0 0 0 1 = 1", "place 0 200 = 1", "place 0 202 = 2",
            "place 0 2 = 3", "sail 0 1 = 1", "trip 0 = 0 1 202 0 0 4 0 0 1 1 -1");
        Check.run("Terms II: the course that it has by then, in line with a place", "steady 0 40", "begin 0 0 0 1 = 1", "place 0 105 = 1", "sail 0 1 = 1",
            "trip 0 = 0 1 104 0 0 4 0 0 1 1 -1");
        Check.run("Terms II: the speed is that of the first course", "port 0 505 = 0", "speed 0 0 0 40 = 0", "speed 0 2 0 1 = 0", "wind 7 0 2 0 = 0",
            "begin 0 0 0 1 = 1", "place 0 605 = 1", "place 0 609 = 2", "sail 0 1 = 1", "passage 0 2 = 608", "sail 0 1 = 1", "passage 0 3 = 1");
    }

    private static void goneIsZero() {
        Check.run("Terms II: when none is left it has ARRIVED, and what it has gone is 0", "steady 0 39", "begin 0 0 0 1 = 1", "place 0 100 = 1",
            "place 0 200 = 2", "sail 0 9 = 1", "trip 0 = 1 1 200 0 0 2 0 0 1 0 -1");
        Check.run("Terms II: with a rest below ten", "steady 0 19", "begin 0 0 0 1 = 1", "place 0 100 = 1", "sail 0 9 = 1", "passage 0 3 = 0");
        Check.run("Terms II: a place that is not the last one leaves it", "steady 0 19", "begin 0 0 0 1 = 1", "place 0 100 = 1", "place 0 200 = 2",
            "sail 0 1 = 1", "passage 0 3 = 9");
    }

    private static void lastWatchToo() {
        Check.run("Terms II: In each WATCH (the last one too) each person drinks", "steady 0 10", "water 0 7 = 0", "lasts 0 1 2 = 10000",
            "begin 0 0 0 3 = 1", "place 0 200 = 1", "sail 0 9 = 2", "passage 0 0 = 1", "boat 0 0 = 1", "boat 0 11 = 0", "boat 0 10 = 9998",
            "passage 0 8 = 0");
        Check.run("Terms II: the last WATCH may be DRY", "steady 0 10", "water 0 5 = 0", "begin 0 0 0 3 = 1", "place 0 200 = 1", "sail 0 9 = 2",
            "passage 0 8 = 1", "boat 0 0 = 0");
    }

    private static void enoughForAll() {
        Check.run("Terms II: a WATCH without enough for all is DRY: just enough", "water 0 9 = 0", "begin 0 0 0 9 = 1", "place 0 900 = 1", "sail 0 1 = 1",
            "boat 0 0 = 0", "passage 0 8 = 0");
        Check.run("Terms II: a WATCH without enough for all is DRY: one less", "water 0 8 = 0", "begin 0 0 0 9 = 1", "place 0 900 = 1", "sail 0 1 = 1",
            "boat 0 0 = 0", "passage 0 8 = 1");
        Check.run("Terms II: as far as there is WATER", "water 0 1 = 0", "begin 0 0 0 9 = 1", "place 0 900 = 1", "sail 0 2 = 2", "boat 0 0 = 0",
            "passage 0 8 = 2", "water 0 9 = 0", "sail 0 1 = 1", "boat 0 0 = 0", "passage 0 8 = 2");
    }

    private static void partsLoseOne() {
        Check.run("Terms II: each PART that isn't broken loses one", "lasts 0 0 0", "lasts 0 1 1", "lasts 0 2 10000", "begin 0 0 0 1 = 1",
            "place 0 900 = 1", "sail 0 1 = 1", "boat 0 10 = -1", "boat 0 11 = 0", "boat 0 12 = 9999", "boat 0 13 = 9999", "sail 0 1 = 1",
            "boat 0 10 = -1", "boat 0 11 = -1", "boat 0 12 = 9998", "boat 0 1 = 2", "sail 0 400 = 400", "boat 0 10 = -1", "boat 0 11 = -1",
            "lasts 0 0 9 = 0", "boat 0 10 = 9", "sail 0 1 = 1", "boat 0 10 = 8", "boat 0 1 = 1");
    }
}
