/** The boundaries of promises 10 to 15, each by a test of its own. */
final class BoundariesOfJourneysTest {
    private static final int NONE = Connectory.NONE;
    private static final int LAST = 140000;

    private BoundariesOfJourneysTest() {
    }

    public static void main(String[] args) {
        Check.all(BoundariesOfJourneysTest.class);
    }

    /** A call that asks for a way by so many rides. */
    private interface Way {
        void go(int from, int to, int time, int rides);
    }

    private static void firstAndLastStop(Way way) {
        Check.due("from the first to the last", Check.thrownBy(() -> way.go(0, 9, 0, 1)), "nothing");
        Check.due("from the last to the first", Check.thrownBy(() -> way.go(9, 0, 0, 1)), "nothing");
        Check.index("from -1", () -> way.go(-1, 9, 0, 1));
        Check.index("from 10", () -> way.go(10, 0, 0, 1));
        Check.index("to -1", () -> way.go(9, -1, 0, 1));
        Check.index("to 10", () -> way.go(0, 10, 0, 1));
        Check.index("from the least number", () -> way.go(Integer.MIN_VALUE, 0, 0, 1));
        Check.index("to the largest number", () -> way.go(0, Integer.MAX_VALUE, 0, 1));
        Check.argument("both the first", () -> way.go(0, 0, 0, 1));
        Check.argument("both the last", () -> way.go(9, 9, 0, 1));
        Check.index("both one that is not there", () -> way.go(10, 10, 0, 1));
        Check.index("no stop is thrown ahead of a time out of range", () -> way.go(10, 0, LAST + 1, 1));
        Check.index("to no stop too", () -> way.go(0, -1, -1, 1));
        Check.index("and ahead of rides out of range", () -> way.go(0, 10, 0, 0));
    }

    private static void firstAndLastTime(Way way) {
        Check.due("0", Check.thrownBy(() -> way.go(0, 1, 0, 1)), "nothing");
        Check.due("140000", Check.thrownBy(() -> way.go(0, 1, LAST, 1)), "nothing");
        Check.argument("-1", () -> way.go(0, 1, -1, 1));
        Check.argument("140001", () -> way.go(0, 1, LAST + 1, 1));
        Check.argument("the least number", () -> way.go(0, 1, Integer.MIN_VALUE, 1));
        Check.argument("the largest number", () -> way.go(0, 1, Integer.MAX_VALUE, 1));
    }

    private static void fewestAndMostRides(Way way, int most) {
        Check.due("1", Check.thrownBy(() -> way.go(0, 1, 0, 1)), "nothing");
        Check.due("the most", Check.thrownBy(() -> way.go(0, 1, 0, most)), "nothing");
        Check.argument("0", () -> way.go(0, 1, 0, 0));
        Check.argument("-1", () -> way.go(0, 1, 0, -1));
        Check.argument("one more than the most", () -> way.go(0, 1, 0, most + 1));
        Check.argument("the least number", () -> way.go(0, 1, 0, Integer.MIN_VALUE));
        Check.argument("the largest number", () -> way.go(0, 1, 0, Integer.MAX_VALUE));
    }

    // ---- promise 10: arrival.

    private static void promise10FirstAndLastStop() {
        Connectory x = Worlds.stops(10, 5);
        firstAndLastStop((from, to, time, rides) -> x.arrival(from, to, time, rides));
        Worlds.line(x, 0, 100, 9, 10);
        Worlds.line(x, 9, 200, 0, 10);
        Check.due("to the last", x.arrival(0, 9, 0, 1), 110);
        Check.due("to the first", x.arrival(9, 0, 0, 1), 210);
    }

    private static void promise10FirstAndLastStopBetween() {
        Connectory x = Worlds.stops(10, 5);
        Worlds.line(x, 4, 100, 0, 10);
        Worlds.line(x, 0, 115, 9, 10);
        Worlds.line(x, 9, 130, 5, 10);
        Check.due("by transfers there", x.arrival(4, 5, 0, 3), 140);
        Check.due("by one of them", x.arrivalAnew(4, 9, 0, 2), 125);
        Connectory y = Worlds.stops(10, 5);
        y.footway(0, 9, 6);
        Worlds.line(y, 4, 100, 0, 10);
        Worlds.line(y, 9, 116, 5, 10);
        Check.due("by a footway from the first to the last", y.arrival(4, 5, 0, 2), 126);
        Check.due("behind the ride", y.arrival(4, 9, 0, 1), 116);
        Check.due("by trying too", y.arrivalAnew(4, 9, 0, 1), 116);
        Check.due("ahead of the ride", y.arrival(0, 5, 110, 1), 126);
    }

    private static void promise10FirstAndLastTime() {
        Connectory x = Worlds.chain(1);
        firstAndLastTime((from, to, time, rides) -> x.arrival(from, to, time, rides));
        Check.due("at 0", x.arrival(0, 1, 0, 1), 110);
        Check.due("at 140000", x.arrival(0, 1, LAST, 1), 98 * 1440 + 110);
    }

    private static void promise10FewestAndMostRides() {
        Connectory x = Worlds.chain(4);
        fewestAndMostRides((from, to, time, rides) -> x.arrival(from, to, time, rides), 4);
        Check.due("one", x.arrival(0, 1, 0, 1), 110);
        Check.due("four", x.arrival(0, 4, 0, 4), 140);
    }

    private static void promise10JustSoManyRides() {
        Connectory x = Worlds.chain(4);
        for (int to = 1; to <= 4; to++) {
            for (int rides = 1; rides <= 4; rides++) {
                Check.due("to " + to + " by " + rides, x.arrival(0, to, 0, rides), to == rides ? 100 + 10 * to : NONE);
            }
        }
    }

    private static void promise10NoneWithoutTrips() {
        Connectory x = Worlds.stops(2, 5);
        Check.due("no trip", x.arrival(0, 1, 0, 1), NONE);
        x.footway(0, 1, 5);
        Check.due("a footway alone", x.arrival(0, 1, 0, 1), NONE);
        Check.due("by four rides", x.arrival(0, 1, 0, 4), NONE);
    }

    private static void promise10NoneOnDaysWithoutRuns() {
        Connectory x = Worlds.stops(2, 5);
        Worlds.lineOf(x, 8, 0, 100, 1, 10);
        Check.due("day 3 from day 1", x.arrival(0, 1, 2 * 1440 - 1, 1), NONE);
        Check.due("day 3 from day 2", x.arrival(0, 1, 2 * 1440, 1), 3 * 1440 + 110);
        Check.due("day 3 as it departs", x.arrival(0, 1, 3 * 1440 + 100, 1), 3 * 1440 + 110);
        Check.due("day 3 behind it", x.arrival(0, 1, 3 * 1440 + 101, 1), NONE);
        Check.due("day 4", x.arrival(0, 1, 4 * 1440, 1), NONE);
    }

    private static void promise10DepartsJustThen() {
        Connectory x = Worlds.chain(1);
        Check.due("when one is ready", x.arrival(0, 1, 100, 1), 110);
        Check.due("a minute ahead of that", x.arrival(0, 1, 101, 1), 1550);
    }

    private static void promise10TheDayAheadOfDay0() {
        Connectory x = Worlds.stops(2, 5);
        Worlds.line(x, 0, 1439, 1, 10);
        for (int day = 0; day < 100; day++) {
            x.delay(0, day, 600);
        }
        Check.due("no run of a day ahead of the day 0", x.arrival(0, 1, 0, 1), 2049);
        Check.due("on day 1 there is one", x.arrival(0, 1, 1440, 1), 2049);
        Check.due("on day 2 there is one", x.arrival(0, 1, 2880, 1), 3489);
    }

    private static void promise10TheDayAheadChangesAtMidnight() {
        Connectory x = Worlds.stops(3, 5);
        x.trip(0, 0, 1, 1, 0, 1439);
        for (int i = 0; i < 5; i++) {
            x.calls(0, i == 4 ? 2 : 1, 300, 60);
        }
        x.delay(0, 0, 600);
        Check.due("as day 1 ends", x.ride(1, 2, 2879, 1, 0, 4), 2039 + 3 * 360);
        Check.due("as day 2 begins", x.arrival(1, 2, 2880, 1), NONE);
    }

    private static void promise10TheDayBehindChangesAtMidnight() {
        Connectory x = Worlds.stops(2, 5);
        Worlds.lineOf(x, 4, 0, 0, 1, 10);
        Check.due("as day 0 ends", x.arrival(0, 1, 1439, 1), NONE);
        Check.due("as day 1 begins", x.arrival(0, 1, 1440, 1), 2890);
    }

    private static void promise10DaysAreThoseOfTheBeginning() {
        Connectory x = Worlds.stops(4, 0);
        Worlds.lineOf(x, 2, 0, 1439, 1, 10);
        Worlds.lineOf(x, 4, 1, 600, 2, 10);
        Check.due("from day 0 the day 2 is not looked at", x.arrival(0, 2, 1439, 2), NONE);
        Check.due("from day 1 it is", x.arrival(0, 2, 1440, 2), 2 * 1440 + 610);
        x.footway(3, 0, 120);
        Check.due("nor behind a footway past midnight", x.arrival(3, 1, 0, 1), 2889);
        x.delay(0, 1, NONE);
        x.runs(0, 2, true);
        Check.due("day 2 on foot on day 1, begun on day 0", x.arrival(3, 1, 1439, 1), NONE);
        Check.due("begun on day 1", x.arrival(3, 1, 1440, 1), 2 * 1440 + 1449);
    }

    private static void promise10TheLastDays() {
        Connectory x = Worlds.stops(2, 5);
        Worlds.line(x, 0, 0, 1, 10);
        x.runs(0, 97, false);
        Check.due("as day 96 ends, 98 is not looked at", x.arrival(0, 1, 97 * 1440 - 1, 1), NONE);
        Check.due("as day 97 begins, it is", x.arrival(0, 1, 97 * 1440, 1), 98 * 1440 + 10);
        Check.due("at the last time it is", x.arrival(0, 1, LAST, 1), 98 * 1440 + 10);
        x.runs(0, 98, false);
        Check.due("day 99 runs", x.runs(0, 99, true));
        Check.due("but is not looked at", x.arrival(0, 1, LAST, 1), NONE);
    }

    private static void promise10TheLatestRun() {
        Connectory x = Worlds.stops(6, 5);
        x.trip(0, 0, 1, 127, 0, 1439);
        for (int i = 1; i < 6; i++) {
            x.calls(0, i, 300, 60);
        }
        x.delay(0, 97, NONE);
        x.delay(0, 98, 600);
        Check.due("by the latest that there can be", x.arrival(0, 5, LAST, 1), 98 * 1440 + 3779);
    }

    private static void promise10AnEarlierDayDelayedBehindALater() {
        Connectory x = Worlds.stops(2, 5);
        Worlds.line(x, 0, 1439, 1, 10);
        Worlds.line(x, 0, 100, 1, 10);
        x.delay(0, 0, 600);
        Check.due("the later day's one is ahead of it", x.ride(0, 1, 1440, 1, 0, 0), 1);
        Check.due("then it follows", x.ride(0, 1, 1541, 1, 0, 0), 0);
        Check.due("of its own day", x.ride(0, 1, 1541, 1, 0, 1), 0);
    }

    private static void promise10ByFootAtBothEnds() {
        Connectory x = Worlds.stops(4, 60);
        x.footway(0, 1, 120);
        x.footway(2, 3, 120);
        Worlds.line(x, 1, 120, 2, 10);
        Check.due("no transfers at the ends", x.arrival(0, 3, 0, 1), 250);
        Check.due("a minute late", x.arrival(0, 3, 1, 1), 1690);
    }

    // ---- promise 11: arrivalAnew.

    private static void promise11FirstAndLastStop() {
        Connectory x = Worlds.stops(10, 5);
        firstAndLastStop((from, to, time, rides) -> x.arrivalAnew(from, to, time, rides));
        Worlds.line(x, 0, 100, 9, 10);
        Worlds.line(x, 9, 200, 0, 10);
        Check.due("to the last", x.arrivalAnew(0, 9, 0, 1), 110);
        Check.due("to the first", x.arrivalAnew(9, 0, 0, 1), 210);
    }

    private static void promise11FirstAndLastTime() {
        Connectory x = Worlds.chain(1);
        firstAndLastTime((from, to, time, rides) -> x.arrivalAnew(from, to, time, rides));
        Check.due("at 0", x.arrivalAnew(0, 1, 0, 1), 110);
        Check.due("at 140000", x.arrivalAnew(0, 1, LAST, 1), 98 * 1440 + 110);
    }

    private static void promise11FewestAndMostRides() {
        Connectory x = Worlds.chain(3);
        fewestAndMostRides((from, to, time, rides) -> x.arrivalAnew(from, to, time, rides), 2);
        Check.due("one", x.arrivalAnew(0, 1, 0, 1), 110);
        Check.due("two", x.arrivalAnew(0, 2, 0, 2), 120);
        Check.argument("three, though there is a journey", () -> x.arrivalAnew(0, 3, 0, 3));
    }

    private static void promise11JustSoManyRides() {
        Connectory x = Worlds.chain(3);
        for (int to = 1; to <= 3; to++) {
            for (int rides = 1; rides <= 2; rides++) {
                Check.due("to " + to + " by " + rides, x.arrivalAnew(0, to, 0, rides),
                    to == rides ? 100 + 10 * to : NONE);
            }
        }
    }

    private static void promise11NoneWithoutTrips() {
        Connectory x = Worlds.stops(2, 5);
        Check.due("no trip", x.arrivalAnew(0, 1, 0, 1), NONE);
        x.footway(0, 1, 5);
        Check.due("a footway alone", x.arrivalAnew(0, 1, 0, 2), NONE);
    }

    private static void promise11DepartsJustThen() {
        Connectory x = Worlds.chain(2);
        Check.due("when one is ready", x.arrivalAnew(0, 2, 100, 2), 120);
        Check.due("a minute ahead of that", x.arrivalAnew(0, 2, 101, 2), 1560);
        x.delay(0, 0, 1);
        Check.due("a transfer missed by a minute", x.arrivalAnew(0, 2, 100, 2), 1560);
    }

    private static void promise11TheFirstAndTheLastDays() {
        Connectory x = Worlds.stops(2, 5);
        Worlds.line(x, 0, 0, 1, 10);
        Check.due("no run of a day ahead of the day 0", x.arrivalAnew(0, 1, 0, 1), 10);
        x.runs(0, 97, false);
        Check.due("as day 96 ends, 98 is not looked at", x.arrivalAnew(0, 1, 97 * 1440 - 1, 1), NONE);
        Check.due("as day 97 begins, it is", x.arrivalAnew(0, 1, 97 * 1440, 1), 98 * 1440 + 10);
        Check.due("at the last time it is", x.arrivalAnew(0, 1, LAST, 1), 98 * 1440 + 10);
        x.runs(0, 98, false);
        Check.due("day 99 is not looked at", x.arrivalAnew(0, 1, LAST, 1), NONE);
    }

    private static void promise11TheDaysAheadAndBehindChangeAtMidnight() {
        Connectory x = Worlds.stops(3, 0);
        Worlds.lineOf(x, 4, 0, 0, 1, 10);
        Check.due("day 2, as day 0 ends", x.arrivalAnew(0, 1, 1439, 1), NONE);
        Check.due("day 2, as day 1 begins", x.arrivalAnew(0, 1, 1440, 1), 2890);
        Worlds.lineOf(x, 8, 1, 0, 2, 10);
        Check.due("day 3 by the second ride, begun on day 1", x.arrivalAnew(0, 2, 2879, 2), NONE);
        Check.due("begun on day 2", x.arrivalAnew(0, 2, 2880, 2), 4330);
        Connectory y = Worlds.stops(3, 5);
        y.trip(0, 0, 1, 1, 0, 1439);
        for (int i = 0; i < 5; i++) {
            y.calls(0, i == 4 ? 2 : 1, 300, 60);
        }
        y.delay(0, 0, 600);
        Check.due("day 0, as day 1 ends", y.arrivalAnew(1, 2, 2879, 1), 3779);
        Check.due("day 0, as day 2 begins", y.arrivalAnew(1, 2, 2880, 1), NONE);
    }

    private static void promise11TheSameTripTwice() {
        Connectory x = Worlds.stops(3, 5);
        x.trip(0, 0, 1, 127, 0, 100);
        x.calls(0, 1, 10, 4);
        x.calls(0, 2, 10, 0);
        Check.due("a transfer into the same run is too long", x.arrivalAnew(0, 2, 0, 2), 1564);
        Connectory y = Worlds.stops(3, 5);
        y.trip(0, 0, 1, 127, 0, 100);
        y.calls(0, 1, 10, 5);
        y.calls(0, 2, 10, 0);
        Check.due("it is just in time", y.arrivalAnew(0, 2, 0, 2), 125);
        Check.due("by arrival too", y.arrival(0, 2, 0, 2), 125);
    }

    private static void promise11AnEarlierOneThatWaits() {
        Connectory x = Worlds.stops(3, 5);
        Worlds.line(x, 0, 100, 1, 15);
        x.trip(0, 0, 1, 127, 0, 100);
        x.calls(1, 1, 12, 60);
        x.calls(1, 2, 10, 0);
        Check.due("there ahead of the other, left behind it", x.arrivalAnew(0, 1, 0, 1), 112);
        Check.due("by arrival too", x.arrival(0, 1, 0, 1), 112);
    }

    // ---- promise 12: front.

    private static void promise12FirstAndLastStop() {
        Connectory x = Worlds.stops(10, 5);
        firstAndLastStop((from, to, time, rides) -> x.front(from, to, rides < 1 ? -1 : time));
        Worlds.line(x, 0, 100, 9, 10);
        Check.due("to the last", x.front(0, 9, 0), 2);
    }

    private static void promise12FirstAndLastTime() {
        Connectory x = Worlds.chain(1);
        firstAndLastTime((from, to, time, rides) -> x.front(from, to, time));
        Check.due("at 0", x.front(0, 1, 0), 2);
        Check.due("at 140000", x.front(0, 1, LAST), 2);
    }

    private static void promise12NoneIs0() {
        Connectory x = Worlds.stops(2, 5);
        Check.due("no trip", x.front(0, 1, 0), 0);
        x.footway(0, 1, 1);
        Check.due("a footway alone", x.front(0, 1, 0), 0);
        Worlds.line(x, 1, 0, 0, 10);
        x.footway(0, 1, NONE);
        Check.due("the other way", x.front(0, 1, 0), 0);
    }

    private static void promise12EachAlone() {
        Connectory x = Worlds.chain(4);
        for (int rides = 1; rides <= 4; rides++) {
            Check.due("by " + rides, x.front(0, rides, 0), 1 << rides);
        }
    }

    /** Stop 0 to stop 4 by one ride at 200, by two at 190, by three at 180, by four at 170. */
    private static Connectory allFour() {
        Connectory x = Worlds.stops(5, 0);
        Worlds.line(x, 0, 100, 4, 100);
        Worlds.line(x, 1, 110, 4, 80);
        Worlds.line(x, 2, 120, 4, 60);
        Worlds.line(x, 3, 130, 4, 40);
        Worlds.line(x, 0, 100, 1, 10);
        Worlds.line(x, 1, 110, 2, 10);
        Worlds.line(x, 2, 120, 3, 10);
        return x;
    }

    private static void promise12AllFour() {
        Connectory x = allFour();
        for (int rides = 1; rides <= 4; rides++) {
            Check.due("by " + rides, x.arrival(0, 4, 0, rides), 210 - 10 * rides);
        }
        Check.due("all", x.front(0, 4, 0), 2 + 4 + 8 + 16);
    }

    private static void promise12TheSameTimeIsNotInIt() {
        Connectory x = allFour();
        x.delay(1, 0, 10);
        Check.due("two as one", x.front(0, 4, 0), 2 + 8 + 16);
        x.delay(1, 0, 9);
        Check.due("two less by a minute", x.front(0, 4, 0), 2 + 4 + 8 + 16);
        x.delay(3, 0, 10);
        Check.due("four as three", x.front(0, 4, 0), 2 + 4 + 8);
        x.delay(3, 0, 9);
        Check.due("four less by a minute", x.front(0, 4, 0), 2 + 4 + 8 + 16);
    }

    private static void promise12LessThanByAllLowerOnes() {
        Connectory x = allFour();
        x.delay(1, 0, 40);
        x.delay(2, 0, 30);
        Check.due("three less than two, not than one", x.arrival(0, 4, 0, 3), 210);
        Check.due("not in it", x.front(0, 4, 0), 2 + 16);
        x.delay(3, 0, 30);
        Check.due("four as one", x.front(0, 4, 0), 2);
    }

    private static void promise12LowerOnesWithoutJourney() {
        Connectory x = allFour();
        x.delay(0, 0, NONE);
        x.delay(0, 1, NONE);
        Check.due("none by one", x.front(0, 4, 0), 4 + 8 + 16);
        x.delay(2, 0, NONE);
        x.delay(2, 1, NONE);
        Check.due("none by one and three", x.front(0, 4, 0), 4 + 16);
    }

    // ---- promise 13: ride.

    private static void promise13FirstAndLastStop() {
        Connectory x = Worlds.stops(10, 5);
        firstAndLastStop((from, to, time, rides) -> x.ride(from, to, time, rides, 0, 0));
        Worlds.line(x, 0, 100, 9, 10);
        Check.due("boards at the first", x.ride(0, 9, 0, 1, 0, 2), 0);
        Check.due("leaves at the last", x.ride(0, 9, 0, 1, 0, 3), 9);
    }

    private static void promise13FirstAndLastTime() {
        Connectory x = Worlds.chain(1);
        firstAndLastTime((from, to, time, rides) -> x.ride(from, to, time, rides, 0, 0));
        Check.due("at 0, its day", x.ride(0, 1, 0, 1, 0, 1), 0);
        Check.due("at 140000, its day", x.ride(0, 1, LAST, 1, 0, 1), 98);
    }

    private static void promise13FewestAndMostRides() {
        Connectory x = Worlds.chain(4);
        fewestAndMostRides((from, to, time, rides) -> x.ride(from, to, time, rides, 0, 0), 4);
        for (int ride = 0; ride < 4; ride++) {
            Check.due("the trip of ride " + ride, x.ride(0, 4, 0, 4, ride, 0), ride);
        }
    }

    private static void promise13FirstAndLastRide() {
        Connectory x = Worlds.chain(4);
        for (int rides = 1; rides <= 4; rides++) {
            Check.due("the first of " + rides, x.ride(0, rides, 0, rides, 0, 0), 0);
            Check.due("the last of " + rides, x.ride(0, rides, 0, rides, rides - 1, 0), rides - 1);
            Check.due("behind the last of " + rides, x.ride(0, rides, 0, rides, rides, 0), NONE);
        }
        Check.due("far behind", x.ride(0, 4, 0, 4, 5, 0), NONE);
        Check.due("the largest number", x.ride(0, 4, 0, 4, Integer.MAX_VALUE, 0), NONE);
        Check.argument("-1", () -> x.ride(0, 4, 0, 4, -1, 0));
        Check.argument("the least number", () -> x.ride(0, 4, 0, 4, Integer.MIN_VALUE, 0));
    }

    private static void promise13FirstAndLastWhat() {
        Connectory x = Worlds.chain(1);
        Check.due("0 its trip", x.ride(0, 1, 1440, 1, 0, 0), 0);
        Check.due("1 its day", x.ride(0, 1, 1440, 1, 0, 1), 1);
        Check.due("2 where it boards", x.ride(0, 1, 1440, 1, 0, 2), 0);
        Check.due("3 where it leaves", x.ride(0, 1, 1440, 1, 0, 3), 1);
        Check.due("4 when it departs", x.ride(0, 1, 1440, 1, 0, 4), 1540);
        Check.due("5 when it arrives", x.ride(0, 1, 1440, 1, 0, 5), 1550);
        Check.argument("-1", () -> x.ride(0, 1, 1440, 1, 0, -1));
        Check.argument("6", () -> x.ride(0, 1, 1440, 1, 0, 6));
        Check.argument("the largest number", () -> x.ride(0, 1, 1440, 1, 0, Integer.MAX_VALUE));
    }

    private static void promise13NoneWithoutAJourney() {
        Connectory x = Worlds.stops(2, 5);
        for (int what = 0; what < 6; what++) {
            Check.due("no journey, what " + what, x.ride(0, 1, 0, 1, 0, what), NONE);
        }
        Check.argument("a wrong ride is refused all the same", () -> x.ride(0, 1, 0, 1, -1, 0));
        Check.argument("a wrong what too, behind the rides", () -> x.ride(0, 1, 0, 1, 9, 6));
    }

    private static void promise13TheLowestTripOfTheLast() {
        Connectory x = Worlds.stops(2, 5);
        for (int i = 0; i < 18; i++) {
            x.trip(0, 0, 1, 1, 0, 0);
        }
        Worlds.line(x, 0, 100, 1, 20);
        Worlds.line(x, 0, 110, 1, 10);
        Check.due("18 of two", x.ride(0, 1, 0, 1, 0, 0), 18);
        Check.due("19, the other being gone", x.ride(0, 1, 101, 1, 0, 0), 19);
    }

    private static void promise13TheEarliestDayOfOneTrip() {
        Connectory x = Worlds.stops(3, 0);
        x.trip(0, 0, 1, 127, 0, 0);
        x.calls(0, 1, 300, 60);
        x.calls(0, 1, 300, 60);
        x.calls(0, 1, 300, 60);
        x.calls(0, 1, 300, 60);
        x.calls(0, 2, 240, 0);
        // Day 0 leaves stop 1 last at 2040; day 1 leaves it first at 1800, and yet is at stop 2 later.
        x.delay(0, 0, 600);
        Check.due("day 0 arrives", x.ride(1, 2, 1440, 1, 0, 5), 2280);
        Check.due("day 0", x.ride(1, 2, 1440, 1, 0, 1), 0);
        Check.due("boards at the first in time", x.ride(1, 2, 1440, 1, 0, 4), 1680);
        Check.due("at the last in time", x.ride(1, 2, 1681, 1, 0, 4), 2040);
        Check.due("day 1 behind it", x.ride(1, 2, 2041, 1, 0, 1), 1);
    }

    private static void promise13OfNoDayTooFarBehind() {
        Connectory x = Worlds.stops(2, 5);
        Worlds.lineOf(x, 4, 0, 289, 1, 10);
        Worlds.lineOf(x, 2, 0, 1439, 1, 300);
        Check.due("both arrive then", x.arrival(0, 1, 1440, 1), 3179);
        Check.due("the day 2 is looked at on day 1", x.ride(0, 1, 1440, 1, 0, 0), 0);
        Check.due("but not on day 0", x.ride(0, 1, 1439, 1, 0, 0), 1);
        Check.due("the same time", x.arrival(0, 1, 1439, 1), 3179);
    }

    private static void promise13OfNoDayTooFarAhead() {
        Connectory x = Worlds.stops(2, 5);
        x.trip(0, 0, 1, 1, 0, 1439);
        for (int i = 0; i < 5; i++) {
            x.calls(0, i == 4 ? 1 : 0, 300, 60);
        }
        x.delay(0, 0, 600);
        Worlds.lineOf(x, 4, 0, 889, 1, 10);
        Check.due("both arrive then", x.arrival(0, 1, 2879, 1), 3779);
        Check.due("the day 0 is looked at on day 1", x.ride(0, 1, 2879, 1, 0, 0), 0);
        Check.due("but not on day 2", x.ride(0, 1, 2880, 1, 0, 0), 1);
        Check.due("the same time", x.arrival(0, 1, 2880, 1), 3779);
    }

    private static void promise13OfARideNotOfAStandingRun() {
        Connectory x = Worlds.stops(4, 5);
        x.footway(0, 1, 5);
        x.trip(0, 0, 1, 127, 2, 90);
        x.calls(0, 1, 20, 60);
        x.calls(0, 3, 10, 0);
        Worlds.line(x, 0, 100, 1, 10);
        Check.due("none goes by just standing at the goal", x.ride(0, 1, 0, 1, 0, 0), 1);
        x.footway(0, 2, 90);
        Check.due("one that can board it ahead does", x.ride(0, 1, 0, 1, 0, 0), 0);
        Check.due("not a minute later", x.ride(0, 1, 1, 1, 0, 0), 1);
    }

    private static void promise13TheGoalItselfAheadOfAFootway() {
        Connectory x = Worlds.stops(3, 5);
        Worlds.line(x, 0, 100, 1, 9);
        Worlds.line(x, 0, 100, 2, 10);
        x.footway(1, 2, 1);
        Check.due("the same time", x.ride(0, 2, 0, 1, 0, 3), 2);
        x.delay(1, 0, 1);
        Check.due("a minute less on foot", x.ride(0, 2, 0, 1, 0, 3), 1);
    }

    private static void promise13TheTransferAheadOfAFootway() {
        Connectory x = Worlds.stops(4, 10);
        x.footway(0, 1, 1);
        Worlds.line(x, 3, 100, 0, 5);
        Worlds.line(x, 3, 100, 1, 5);
        Worlds.line(x, 1, 115, 2, 10);
        Check.due("a transfer of just ten minutes", x.ride(3, 2, 0, 2, 0, 3), 1);
        x.delay(1, 0, 1);
        Check.due("of nine: on foot", x.ride(3, 2, 0, 2, 0, 3), 0);
    }

    // ---- promise 14: journey.

    private static void promise14FirstAndLastStop() {
        Connectory x = Worlds.stops(10, 5);
        firstAndLastStop((from, to, time, rides) -> x.journey(from, to, time, rides, 0));
        Worlds.line(x, 9, 100, 0, 10);
        Check.due("to the first", x.journey(9, 0, 0, 1, 1), 14.0);
    }

    private static void promise14FirstAndLastTime() {
        Connectory x = Worlds.chain(1);
        firstAndLastTime((from, to, time, rides) -> x.journey(from, to, time, rides, 0));
        Check.due("score at 0", x.journey(0, 1, 0, 1, 2), 110.0 + 15.0 + 1.4);
        Check.due("score at 140000", x.journey(0, 1, LAST, 1, 2), 98.0 * 1440.0 + 110.0 - LAST + 15.0 + 1.4);
    }

    private static void promise14FewestAndMostRides() {
        Connectory x = Worlds.chain(4);
        fewestAndMostRides((from, to, time, rides) -> x.journey(from, to, time, rides, 0), 4);
        Check.due("carbon of one", x.journey(0, 1, 0, 1, 1), 14.0);
        Check.due("carbon of four", x.journey(0, 4, 0, 4, 1), 56.0);
    }

    private static void promise14FirstAndLastWhat() {
        Connectory x = Worlds.chain(2);
        x.prices(0, 10, 1, 0);
        x.note(0, 0);
        x.note(0, 1);
        Check.due("0 its chance", x.journey(0, 2, 0, 2, 0), 0.5);
        Check.due("1 its carbon", x.journey(0, 2, 0, 2, 1), 28.0);
        Check.due("2 its score", x.journey(0, 2, 0, 2, 2), 120.0 + 30.0 + 2.8);
        Check.due("3 its fare", x.journey(0, 2, 0, 2, 3), 12.0);
        Check.argument("-1", () -> x.journey(0, 2, 0, 2, -1));
        Check.argument("4", () -> x.journey(0, 2, 0, 2, 4));
        Check.argument("the largest number", () -> x.journey(0, 2, 0, 2, Integer.MAX_VALUE));
        Check.argument("without a journey too", () -> x.journey(2, 0, 0, 2, 4));
    }

    private static void promise14NoneWithoutAJourney() {
        Connectory x = Worlds.stops(2, 5);
        for (int what = 0; what < 4; what++) {
            Check.due("no journey, what " + what, x.journey(0, 1, 0, 1, what), -1.0);
        }
    }

    private static void promise14ChanceWithoutNotes() {
        Connectory x = Worlds.chain(2);
        Check.due("certain", x.journey(0, 2, 0, 2, 0), 1.0);
        x.note(1, 600);
        Check.due("the last trip's do not count", x.journey(0, 2, 0, 2, 0), 1.0);
        x.note(0, 600);
        Check.due("the first trip's one does", x.journey(0, 2, 0, 2, 0), 0.0);
        Check.due("not for one ride", x.journey(0, 1, 0, 1, 0), 1.0);
    }

    private static void promise14ChanceOfNoMinutesSpare() {
        Connectory x = Worlds.chain(2);
        x.note(0, 0);
        Check.due("late by 0", x.journey(0, 2, 0, 2, 0), 1.0);
        x.note(0, 1);
        Check.due("late by 1", x.journey(0, 2, 0, 2, 0), 0.5);
    }

    private static void promise14ChanceOfJustTheMinutesSpare() {
        Connectory x = Worlds.stops(3, 5);
        Worlds.line(x, 0, 100, 1, 10);
        int next = Worlds.line(x, 1, 135, 2, 10);
        x.note(0, 20);
        Check.due("20 of 20, behind the transfer", x.journey(0, 2, 0, 2, 0), 1.0);
        x.note(0, 21);
        Check.due("21 of 20", x.journey(0, 2, 0, 2, 0), 0.5);
        x.delay(next, 0, 1);
        Check.due("21 of 21", x.journey(0, 2, 0, 2, 0), 1.0);
    }

    private static void promise14ChanceBehindAFootway() {
        Connectory x = Worlds.stops(4, 60);
        x.footway(1, 2, 5);
        Worlds.line(x, 0, 100, 1, 10);
        Worlds.line(x, 2, 135, 3, 10);
        x.note(0, 20);
        x.note(0, 21);
        Check.due("20 minutes are spare", x.journey(0, 3, 0, 2, 0), 0.5);
    }

    private static void promise14ChanceOfThirtyNotes() {
        Connectory x = Worlds.chain(2);
        for (int i = 0; i < 30; i++) {
            x.note(0, i % 3);
        }
        Check.due("ten of thirty", x.journey(0, 2, 0, 2, 0), 10.0 / 30.0);
        x.delay(1, 0, 600);
        Check.due("all of thirty", x.journey(0, 2, 0, 2, 0), 1.0);
    }

    private static void promise14ChanceOfThreeTransfers() {
        Connectory x = Worlds.chain(4);
        int[] late = {1, 2, 4};
        for (int trip = 0; trip < 3; trip++) {
            x.note(trip, 0);
            for (int i = 0; i < late[trip]; i++) {
                x.note(trip, 600);
            }
        }
        Check.due("in order", x.journey(0, 4, 0, 4, 0), 1.0 * (1.0 / 2.0) * (1.0 / 3.0) * (1.0 / 5.0));
    }

    private static void promise14CarbonOfOneAndOfFiveStops() {
        for (int mode = 0; mode < 3; mode++) {
            Connectory x = Worlds.stops(6, 0);
            x.trip(mode, 0, 1, 127, 0, 100);
            for (int i = 1; i < 6; i++) {
                x.calls(0, i, 10, 0);
            }
            double each = mode == 0 ? 14.0 : mode == 1 ? 30.0 : 120.0;
            for (int stops = 1; stops < 6; stops++) {
                Check.due("mode " + mode + ", " + stops, x.journey(0, stops, 0, 1, 1), each * stops);
                Check.due("to the last, " + stops, x.journey(5 - stops, 5, 0, 1, 1), each * stops);
            }
        }
    }

    private static void promise14ScoreWithNoMinutes() {
        Connectory x = Worlds.stops(2, 0);
        Worlds.line(x, 0, 100, 1, 1);
        Check.due("a minute", x.journey(0, 1, 100, 1, 2), 1.0 + 15.0 + 14.0 / 10.0);
        x.delay(0, 0, 600);
        Check.due("a delay counts", x.journey(0, 1, 100, 1, 2), 601.0 + 15.0 + 14.0 / 10.0);
    }

    private static void promise14SurchargeOfMoreThanThreeStops() {
        Connectory x = Worlds.stops(6, 0);
        x.trip(0, 0, 1, 127, 0, 100);
        for (int i = 1; i < 6; i++) {
            x.calls(0, i, 10, 0);
        }
        x.prices(0, 100, 10, 7);
        int[] due = {110, 120, 130, 147, 157};
        for (int stops = 1; stops < 6; stops++) {
            Check.due(stops + " stops", x.journey(0, stops, 0, 1, 3), (double) due[stops - 1]);
        }
    }

    private static void promise14TogetherOrSplit() {
        Connectory x = Worlds.chain(4);
        x.prices(0, 100, 10, 100);
        Check.due("three stops together", x.journey(0, 3, 0, 3, 3), 130.0);
        Check.due("four together or split are the same", x.journey(0, 4, 0, 4, 3), 240.0);
        x.prices(0, 100, 10, 99);
        Check.due("together a cent less", x.journey(0, 4, 0, 4, 3), 239.0);
        x.prices(0, 100, 10, 101);
        Check.due("split is no dearer", x.journey(0, 4, 0, 4, 3), 240.0);
        x.prices(0, 0, 10, 101);
        Check.due("without a base", x.journey(0, 4, 0, 4, 3), 40.0);
    }

    private static void promise14TicketsAreOfOneFirm() {
        Connectory x = Worlds.stops(5, 0);
        int[] firms = {0, 1, 0, 0};
        for (int i = 0; i < 4; i++) {
            x.trip(0, firms[i], 1, 127, i, 100 + 10 * i);
            x.calls(i, i + 1, 10, 0);
        }
        x.prices(0, 100, 1, 0);
        x.prices(1, 1000, 1, 0);
        Check.due("not around another firm", x.journey(0, 4, 0, 4, 3), 101.0 + 1001.0 + 102.0);
        Check.due("two firms", x.journey(0, 2, 0, 2, 3), 101.0 + 1001.0);
    }

    private static void promise14TheLargestFare() {
        Connectory x = Worlds.stops(10, 0);
        for (int i = 0; i < 4; i++) {
            x.trip(2, i % 2, 1, 127, i, 100 + 10 * i);
            for (int stop = 0; stop < 5; stop++) {
                x.calls(i, stop == 4 ? i + 1 : 9, 1, 0);
            }
        }
        x.prices(0, 10000, 1000, 10000);
        x.prices(1, 10000, 1000, 10000);
        Check.due("four tickets", x.journey(0, 4, 0, 4, 3), 100000.0);
        Check.due("the most carbon", x.journey(0, 4, 0, 4, 1), 2400.0);
        Check.due("booked", x.book(0, 4, 0, 4), 0);
        Check.due("bought", x.buy(0), 100000);
        x.delay(3, 0, 120);
        Check.due("half of it", x.right(0), 50000);
    }

    private static void promise14NoPrices() {
        Connectory x = Worlds.chain(4);
        Check.due("all is 0 at first", x.journey(0, 4, 0, 4, 3), 0.0);
    }

    // ---- promise 15: best.

    private static void promise15FirstAndLastStop() {
        Connectory x = Worlds.stops(10, 5);
        firstAndLastStop((from, to, time, rides) -> x.best(from, to, rides < 1 ? -1 : time));
        Worlds.line(x, 0, 100, 9, 10);
        Check.due("to the last", x.best(0, 9, 0), 1);
    }

    private static void promise15FirstAndLastTime() {
        Connectory x = Worlds.chain(1);
        firstAndLastTime((from, to, time, rides) -> x.best(from, to, time));
        Check.due("at 0", x.best(0, 1, 0), 1);
        Check.due("at 140000", x.best(0, 1, LAST), 1);
    }

    private static void promise15NoneWithoutAJourney() {
        Connectory x = Worlds.stops(2, 5);
        Check.due("no trip", x.best(0, 1, 0), NONE);
        x.footway(0, 1, 1);
        Check.due("a footway alone", x.best(0, 1, 0), NONE);
    }

    private static void promise15EachAlone() {
        Connectory x = Worlds.chain(4);
        for (int rides = 1; rides <= 4; rides++) {
            Check.due("by " + rides, x.best(0, rides, 0), rides);
        }
    }

    private static void promise15OfTheSameScoreTheFewest() {
        Connectory x = Worlds.stops(3, 0);
        int direct = x.trip(1, 0, 1, 127, 0, 100);
        x.calls(direct, 2, 48, 0);
        for (int i = 0; i < 2; i++) {
            int trip = x.trip(1, 0, 1, 127, i, 100 + 10 * i);
            x.calls(trip, i + 1, 20 * i + 10, 0);
        }
        // By one ride 48 + 15 + 3, by two 40 + 30 + 6.
        Check.due("one less", x.best(0, 2, 100), 1);
        x.delay(direct, 0, 10);
        Check.due("the same score", x.journey(0, 2, 100, 1, 2), x.journey(0, 2, 100, 2, 2));
        Check.due("the fewest", x.best(0, 2, 100), 1);
        x.delay(direct, 0, 11);
        Check.due("two less by one", x.best(0, 2, 100), 2);
    }

    private static void promise15ByFourAgainstOne() {
        Connectory x = allFour();
        // By one ride 100 + 15 + 1.4, by four 70 + 60 + 5.6.
        Check.due("one", x.best(0, 4, 100), 1);
        x.delay(0, 0, 20);
        Check.due("two: 90 + 30 + 2.8", x.best(0, 4, 100), 2);
        x.delay(1, 0, 600);
        x.delay(2, 0, 600);
        Check.due("one is 120 + 15 + 1.4", x.best(0, 4, 100), 4);
        x.delay(0, 0, 19);
        Check.due("one is 119 + 15 + 1.4", x.best(0, 4, 100), 1);
    }
}
