/** The boundaries of promises 1 to 9, each by a test of its own. */
final class BoundariesOfTripsTest {
    private static final int NONE = Connectory.NONE;

    private BoundariesOfTripsTest() {
    }

    public static void main(String[] args) {
        Check.all(BoundariesOfTripsTest.class);
    }

    // ---- promise 1: a new object.

    private static void promise01HasNoStops() {
        Connectory x = new Connectory();
        Check.index("footway", () -> x.footway(0, 1, 5));
        Check.index("footway, both are one", () -> x.footway(0, 0, NONE));
        Check.index("trip", () -> x.trip(0, 0, 1, 1, 0, 0));
        Check.index("arrival", () -> x.arrival(0, 1, 0, 1));
        Check.index("arrivalAnew", () -> x.arrivalAnew(0, 1, 0, 1));
        Check.index("front", () -> x.front(0, 1, 0));
        Check.index("ride", () -> x.ride(0, 1, 0, 1, 0, 0));
        Check.index("journey", () -> x.journey(0, 1, 0, 1, 0));
        Check.index("best", () -> x.best(0, 1, 0));
        Check.index("book", () -> x.book(0, 1, 0, 1));
    }

    private static void promise01HasNoTrips() {
        Connectory x = Worlds.stops(2, 5);
        Check.index("calls", () -> x.calls(0, 1, 1, 0));
        Check.index("runs", () -> x.runs(0, 0, true));
        Check.index("delay", () -> x.delay(0, 0, 0));
        Check.index("note", () -> x.note(0, 0));
        Check.index("concerned", () -> x.concerned(0, 0));
        Check.index("seats", () -> x.seats(0, 0));
    }

    private static void promise01HasNoBookings() {
        Connectory x = Worlds.chain(1);
        Check.index("buy", () -> x.buy(0));
        Check.index("right", () -> x.right(0));
        Check.index("claim", () -> x.claim(0));
        Check.index("ofBooking", () -> x.ofBooking(0, 0));
        Check.due("none concerned", x.concerned(0, 0), 0);
        Check.due("none dropped", x.pass(1440), 0);
    }

    private static void promise01NumbersBeginAt0() {
        Connectory x = new Connectory();
        Check.due("stop", x.stop(0), 0);
        Check.due("stop", x.stop(0), 1);
        Check.due("trip", Worlds.line(x, 0, 0, 1, 1), 0);
        Check.due("booking", x.book(0, 1, 0, 1), 0);
    }

    private static void promise01NowIs0() {
        Connectory x = Worlds.chain(1);
        x.book(0, 1, 0, 1);
        Check.due("30 minutes later", x.pass(30), 0);
        Check.due("a minute behind", x.pass(1), 1);
    }

    private static void promise01ObjectsShareNothing() {
        Connectory x = Worlds.some();
        Connectory other = new Connectory();
        Check.due("stop", other.stop(9), 0);
        Check.due("stop", other.stop(9), 1);
        Check.due("trip", Worlds.line(other, 0, 100, 1, 10), 0);
        Check.due("delay", other.delay(0, 0, 30), 0);
        Check.due("price", other.journey(0, 1, 0, 1, 3), 0.0);
        Check.due("footway", other.footway(0, 1, 9), NONE);
        other.prices(0, 9, 9, 9);
        Check.due("booking", other.book(0, 1, 0, 1), 0);
        other.pass(1440);
        Check.due("the first one is as it was", Answers.of(x, Worlds.SOME), Answers.of(Worlds.some(), Worlds.SOME));
    }

    private static void promise01The512thCall() {
        Connectory x = Worlds.chain(2);
        for (int call = 3 + 4; call < 511; call++) {
            x.arrival(0, 2, call, 2);
        }
        Check.due("the 512th call", x.arrival(0, 2, 100, 2), 120);
    }

    // ---- promise 2: stop.

    private static void promise02LeastTransfer() {
        Connectory x = new Connectory();
        Check.due("taken", x.stop(0), 0);
        x.stop(0);
        x.stop(0);
        int first = Worlds.line(x, 0, 100, 1, 10);
        Worlds.line(x, 1, 110, 2, 10);
        Check.due("at the minute of arrival", x.arrival(0, 2, 0, 2), 120);
        x.delay(first, 0, 1);
        Check.due("but not a minute later", x.arrival(0, 2, 0, 2), 1560);
    }

    private static void promise02LargestTransfer() {
        Connectory x = new Connectory();
        x.stop(0);
        Check.due("taken", x.stop(60), 1);
        x.stop(0);
        int first = Worlds.line(x, 0, 100, 1, 10);
        Worlds.line(x, 1, 170, 2, 10);
        Check.due("an hour later", x.arrival(0, 2, 0, 2), 180);
        x.delay(first, 0, 1);
        Check.due("but not 59 minutes", x.arrival(0, 2, 0, 2), 1620);
    }

    private static void promise02TransferTooSmall() {
        Connectory x = new Connectory();
        Check.argument("-1", () -> x.stop(-1));
        Check.argument("NONE is no transfer", () -> x.stop(NONE));
        Check.argument("the least number", () -> x.stop(Integer.MIN_VALUE));
        Check.due("no number is taken by that", x.stop(0), 0);
    }

    private static void promise02TransferTooLarge() {
        Connectory x = new Connectory();
        Check.argument("61", () -> x.stop(61));
        Check.argument("the largest number", () -> x.stop(Integer.MAX_VALUE));
        Check.due("no number is taken by that", x.stop(60), 0);
    }

    private static void promise02TheTenthStop() {
        Connectory x = Worlds.stops(9, 5);
        Check.index("not there yet", () -> x.footway(0, 9, 5));
        Check.due("the tenth", x.stop(5), 9);
        Worlds.line(x, 0, 100, 9, 10);
        Check.due("gone to", x.arrival(0, 9, 0, 1), 110);
        Check.due("gone from", x.arrival(9, 0, 0, 1), NONE);
    }

    private static void promise02TheEleventhStop() {
        Connectory x = Worlds.stops(10, 5);
        Check.state("refused", () -> x.stop(5));
        Check.state("refused again", () -> x.stop(0));
        Check.index("it is not there", () -> x.footway(0, 10, 5));
        Check.due("the tenth is as it was", x.footway(0, 9, 5), NONE);
    }

    private static void promise02OutOfRangeIsThrownAheadOfFull() {
        Connectory x = Worlds.stops(10, 5);
        Check.argument("-1", () -> x.stop(-1));
        Check.argument("61", () -> x.stop(61));
        Check.state("in range", () -> x.stop(60));
    }

    // ---- promise 3: footway.

    private static void promise03OneMinute() {
        Connectory x = Worlds.stops(3, 5);
        Check.due("taken", x.footway(0, 1, 1), NONE);
        Worlds.line(x, 1, 100, 2, 10);
        Check.due("a minute ahead", x.arrival(0, 2, 99, 1), 110);
        Check.due("no minute ahead", x.arrival(0, 2, 100, 1), 1550);
    }

    private static void promise03TwoHours() {
        Connectory x = Worlds.stops(3, 5);
        Check.due("taken", x.footway(0, 1, 120), NONE);
        Worlds.line(x, 1, 200, 2, 10);
        Check.due("120 minutes ahead", x.arrival(0, 2, 80, 1), 210);
        Check.due("119 minutes ahead", x.arrival(0, 2, 81, 1), 1650);
    }

    private static void promise03MinutesTooSmall() {
        Connectory x = Worlds.stops(2, 5);
        x.footway(0, 1, 7);
        Check.argument("0", () -> x.footway(0, 1, 0));
        Check.argument("-2", () -> x.footway(0, 1, -2));
        Check.argument("the least number", () -> x.footway(0, 1, Integer.MIN_VALUE));
        Check.due("it stays", x.footway(0, 1, 8), 7);
    }

    private static void promise03MinutesTooLarge() {
        Connectory x = Worlds.stops(2, 5);
        x.footway(0, 1, 7);
        Check.argument("121", () -> x.footway(0, 1, 121));
        Check.argument("the largest number", () -> x.footway(1, 0, Integer.MAX_VALUE));
        Check.due("it stays", x.footway(0, 1, 8), 7);
    }

    private static void promise03NoneTakesItAway() {
        Connectory x = Worlds.stops(3, 5);
        x.footway(0, 1, 10);
        Worlds.line(x, 1, 100, 2, 10);
        Check.due("walked", x.arrival(0, 2, 0, 1), 110);
        Check.due("what it was", x.footway(1, 0, NONE), 10);
        Check.due("walked no more", x.arrival(0, 2, 0, 1), NONE);
        Check.due("none was left", x.footway(0, 1, NONE), NONE);
        Check.due("none is left", x.footway(0, 1, 10), NONE);
        Check.due("walked again", x.arrival(0, 2, 0, 1), 110);
    }

    private static void promise03InPlaceOfOne() {
        Connectory x = Worlds.stops(2, 5);
        Check.due("first", x.footway(0, 1, 10), NONE);
        Check.due("the same", x.footway(0, 1, 10), 10);
        Check.due("more", x.footway(0, 1, 120), 10);
        Check.due("less", x.footway(0, 1, 1), 120);
        Check.due("none", x.footway(0, 1, NONE), 1);
    }

    private static void promise03AndBack() {
        Connectory x = Worlds.stops(3, 5);
        x.footway(1, 0, 10);
        Worlds.line(x, 1, 100, 2, 10);
        Worlds.line(x, 2, 200, 1, 10);
        Check.due("there", x.arrival(0, 2, 90, 1), 110);
        Check.due("and back", x.arrival(2, 0, 0, 1), 220);
        Check.due("set from there, told from here", x.footway(0, 1, 11), 10);
        Check.due("set from here, told from there", x.footway(1, 0, 12), 11);
    }

    private static void promise03BothAreOne() {
        Connectory x = Worlds.stops(10, 5);
        Check.argument("the first", () -> x.footway(0, 0, 5));
        Check.argument("the last", () -> x.footway(9, 9, 5));
        Check.argument("none", () -> x.footway(0, 0, NONE));
        Check.argument("both out of range", () -> x.footway(0, 0, 121));
    }

    private static void promise03FirstAndLastStop() {
        Connectory x = Worlds.stops(10, 5);
        Check.due("first, last", x.footway(0, 9, 5), NONE);
        Check.due("last, first", x.footway(9, 0, 6), 5);
        Check.index("ahead of the first", () -> x.footway(-1, 9, 5));
        Check.index("behind the last", () -> x.footway(10, 0, 5));
        Check.index("other ahead of the first", () -> x.footway(9, -1, 5));
        Check.index("other behind the last", () -> x.footway(0, 10, 5));
        Check.due("it stays", x.footway(0, 9, 6), 6);
    }

    private static void promise03OfEachTwoStops() {
        Connectory x = Worlds.stops(10, 5);
        for (int stop = 0; stop < 10; stop++) {
            for (int other = 0; other < stop; other++) {
                Check.due("none yet", x.footway(stop, other, 1 + 10 * stop + other), NONE);
            }
        }
        for (int stop = 0; stop < 10; stop++) {
            for (int other = 0; other < stop; other++) {
                Check.due("its own", x.footway(other, stop, NONE), 1 + 10 * stop + other);
            }
        }
    }

    private static void promise03NoStopIsThrownAheadOfOutOfRange() {
        Connectory x = Worlds.stops(2, 5);
        Check.index("stop, minutes", () -> x.footway(2, 1, 121));
        Check.index("other, minutes", () -> x.footway(0, 2, 0));
        Check.index("both are one that is not there", () -> x.footway(2, 2, 5));
        Check.index("stop alone, both are not one", () -> x.footway(-1, 2, -2));
    }

    // ---- promise 4: trip.

    private static void promise04FirstAndLastMode() {
        Connectory x = Worlds.stops(2, 5);
        x.trip(0, 0, 1, 127, 0, 100);
        x.calls(0, 1, 10, 0);
        x.trip(2, 0, 1, 127, 1, 100);
        x.calls(1, 0, 10, 0);
        Check.due("0 is a train", x.journey(0, 1, 0, 1, 1), 14.0);
        Check.due("2 is a boat", x.journey(1, 0, 0, 1, 1), 120.0);
        Check.argument("-1", () -> x.trip(-1, 0, 1, 1, 0, 0));
        Check.argument("3", () -> x.trip(3, 0, 1, 1, 0, 0));
        Check.due("no number is taken by that", x.trip(1, 0, 1, 1, 0, 0), 2);
    }

    private static void promise04FirstAndLastFirm() {
        Connectory x = Worlds.stops(4, 5);
        for (int firm = 0; firm < 3; firm++) {
            x.trip(0, firm, 1, 127, firm, 100);
            x.calls(firm, firm + 1, 10, 0);
            x.prices(firm, 100 * (firm + 1), 0, 0);
        }
        for (int firm = 0; firm < 3; firm++) {
            Check.due("firm " + firm, x.journey(firm, firm + 1, 0, 1, 3), 100.0 * (firm + 1));
        }
        Check.index("-1", () -> x.trip(0, -1, 1, 1, 0, 0));
        Check.index("3", () -> x.trip(0, 3, 1, 1, 0, 0));
        Check.due("no number is taken by that", x.trip(0, 0, 1, 1, 0, 0), 3);
    }

    private static void promise04LeastAndMostSeats() {
        Connectory x = Worlds.stops(2, 5);
        Check.due("one seat", x.trip(0, 0, 1, 127, 0, 100), 0);
        Check.due("a hundred", x.trip(0, 0, 100, 127, 0, 100), 1);
        Check.due("one is free", x.seats(0, 0), 1);
        Check.due("a hundred are", x.seats(1, 0), 100);
        Check.argument("none", () -> x.trip(0, 0, 0, 1, 0, 0));
        Check.argument("-1", () -> x.trip(0, 0, -1, 1, 0, 0));
        Check.argument("101", () -> x.trip(0, 0, 101, 1, 0, 0));
        Check.due("no number is taken by that", x.trip(0, 0, 50, 1, 0, 0), 2);
    }

    private static void promise04EachDayOfTheWeek() {
        for (int bit = 0; bit < 7; bit++) {
            Connectory x = Worlds.stops(2, 5);
            Worlds.lineOf(x, 1 << bit, 0, 100, 1, 10);
            for (int day = 0; day < 100; day++) {
                Check.due("weekday " + bit + ", day " + day, x.runs(0, day, false) == (day % 7 == bit));
            }
        }
    }

    private static void promise04LeastDaysGoRound() {
        Connectory x = Worlds.stops(2, 5);
        Worlds.lineOf(x, 1, 0, 100, 1, 10);
        Check.due("day 0", x.arrival(0, 1, 0, 1), 110);
        Check.due("not day 1", x.arrival(0, 1, 101, 1), NONE);
        Check.due("day 7, from day 6", x.arrival(0, 1, 6 * 1440, 1), 7 * 1440 + 110);
        Check.due("day 7", x.arrival(0, 1, 7 * 1440 + 100, 1), 7 * 1440 + 110);
        Check.due("not day 8", x.arrival(0, 1, 7 * 1440 + 101, 1), NONE);
        Check.due("day 98", x.arrival(0, 1, 140000, 1), 98 * 1440 + 110);
    }

    private static void promise04LastDayOfTheWeek() {
        Connectory x = Worlds.stops(2, 5);
        Worlds.lineOf(x, 64, 0, 100, 1, 10);
        Check.due("not day 5", x.arrival(0, 1, 4 * 1440, 1), NONE);
        Check.due("day 6", x.arrival(0, 1, 5 * 1440, 1), 6 * 1440 + 110);
        Check.due("not day 7", x.arrival(0, 1, 6 * 1440 + 101, 1), NONE);
        Check.due("day 13", x.arrival(0, 1, 12 * 1440, 1), 13 * 1440 + 110);
    }

    private static void promise04AllDays() {
        Connectory x = Worlds.stops(2, 5);
        Worlds.lineOf(x, 127, 0, 100, 1, 10);
        for (int day = 0; day < 100; day++) {
            Check.due("day " + day, x.runs(0, day, true));
        }
    }

    private static void promise04DaysOutOfRange() {
        Connectory x = Worlds.stops(1, 5);
        Check.argument("no day", () -> x.trip(0, 0, 1, 0, 0, 0));
        Check.argument("-1", () -> x.trip(0, 0, 1, -1, 0, 0));
        Check.argument("an eighth day", () -> x.trip(0, 0, 1, 128, 0, 0));
        Check.argument("the largest number", () -> x.trip(0, 0, 1, Integer.MAX_VALUE, 0, 0));
        Check.due("no number is taken by that", x.trip(0, 0, 1, 127, 0, 0), 0);
    }

    private static void promise04FirstAndLastStop() {
        Connectory x = Worlds.stops(10, 5);
        Check.due("the first", x.trip(0, 0, 1, 1, 0, 0), 0);
        Check.due("the last", x.trip(0, 0, 1, 1, 9, 0), 1);
        Check.index("-1", () -> x.trip(0, 0, 1, 1, -1, 0));
        Check.index("10", () -> x.trip(0, 0, 1, 1, 10, 0));
        Check.due("no number is taken by that", x.trip(0, 0, 1, 1, 0, 0), 2);
    }

    private static void promise04FirstAndLastMinute() {
        Connectory x = Worlds.stops(3, 5);
        Worlds.line(x, 0, 0, 1, 1);
        Worlds.line(x, 1, 1439, 2, 1);
        Check.due("as the day begins", x.arrival(0, 1, 0, 1), 1);
        Check.due("as the day 1 begins", x.arrival(0, 1, 1, 1), 1441);
        Check.due("as the day ends, arriving as the next begins", x.arrival(1, 2, 1439, 1), 1440);
        Check.due("as the day 1 ends", x.arrival(1, 2, 1440, 1), 2880);
        Check.due("of its own day", x.ride(1, 2, 1439, 1, 0, 1), 0);
        Check.argument("-1", () -> x.trip(0, 0, 1, 1, 0, -1));
        Check.argument("1440", () -> x.trip(0, 0, 1, 1, 0, 1440));
        Check.due("no number is taken by that", x.trip(0, 0, 1, 1, 0, 1439), 2);
    }

    private static void promise04TheTwentiethTrip() {
        Connectory x = Worlds.stops(2, 5);
        for (int i = 0; i < 19; i++) {
            Check.due("number", x.trip(0, 0, 1, 1, 0, 0), i);
        }
        Check.index("not there yet", () -> x.note(19, 0));
        Check.due("the twentieth", Worlds.line(x, 0, 100, 1, 10), 19);
        Check.due("it runs", x.ride(0, 1, 0, 1, 0, 0), 19);
        Check.due("it is noted", x.note(19, 0), 1);
    }

    private static void promise04TheTwentyFirstTrip() {
        Connectory x = Worlds.stops(2, 5);
        for (int i = 0; i < 20; i++) {
            x.trip(0, 0, 1, 1, 0, 0);
        }
        Check.state("refused", () -> x.trip(0, 0, 1, 1, 0, 0));
        Check.index("it is not there", () -> x.note(20, 0));
        Check.due("the twentieth goes on", x.calls(19, 1, 10, 0), 2);
        Check.argument("out of range is thrown ahead of full", () -> x.trip(3, 0, 1, 1, 0, 0));
        Check.argument("seats too", () -> x.trip(0, 0, 101, 1, 0, 0));
        Check.argument("days too", () -> x.trip(0, 0, 1, 128, 0, 0));
        Check.argument("a minute too", () -> x.trip(0, 0, 1, 1, 0, 1440));
        Check.index("no firm is thrown ahead of full", () -> x.trip(0, 3, 1, 1, 0, 0));
        Check.index("no stop too", () -> x.trip(0, 0, 1, 1, 2, 0));
    }

    private static void promise04OneStopRunsNowhere() {
        Connectory x = Worlds.stops(3, 5);
        x.trip(0, 0, 7, 127, 0, 100);
        x.footway(0, 1, 10);
        Check.due("arrival", x.arrival(0, 1, 0, 1), NONE);
        Check.due("arrivalAnew", x.arrivalAnew(0, 1, 0, 1), NONE);
        Check.due("front", x.front(0, 1, 0), 0);
        Check.due("best", x.best(0, 1, 0), NONE);
        Check.due("ride", x.ride(0, 1, 0, 1, 0, 0), NONE);
        Check.due("journey", x.journey(0, 1, 0, 1, 1), -1.0);
        Check.state("book", () -> x.book(0, 1, 0, 1));
        Check.due("yet it has days", x.runs(0, 5, true));
        Check.due("and delays", x.delay(0, 5, 9), 0);
        Check.due("and seats", x.seats(0, 5), 7);
        Check.due("and notes", x.note(0, 9), 1);
    }

    // ---- promise 5: calls.

    private static void promise05LeastAndMostMinutesOfRides() {
        Connectory x = Worlds.stops(3, 5);
        x.trip(0, 0, 1, 127, 0, 100);
        Check.due("one", x.calls(0, 1, 1, 0), 2);
        Check.due("300", x.calls(0, 2, 300, 0), 3);
        Check.due("a minute later", x.arrival(0, 1, 0, 1), 101);
        Check.due("300 minutes behind that", x.arrival(0, 2, 0, 1), 401);
        Check.argument("0", () -> x.calls(0, 1, 0, 0));
        Check.argument("-1", () -> x.calls(0, 1, -1, 0));
        Check.argument("301", () -> x.calls(0, 1, 301, 0));
        Check.argument("the largest number", () -> x.calls(0, 1, Integer.MAX_VALUE, 0));
        Check.due("no stop is taken by that", x.calls(0, 1, 1, 0), 4);
    }

    private static void promise05LeastAndMostMinutesOfWaits() {
        Connectory x = Worlds.stops(4, 5);
        x.trip(0, 0, 1, 127, 0, 100);
        Check.due("none", x.calls(0, 1, 10, 0), 2);
        Check.due("60", x.calls(0, 2, 10, 60), 3);
        x.calls(0, 3, 10, 0);
        Check.due("left at once", x.ride(1, 3, 110, 1, 0, 4), 110);
        Check.due("reached ahead of the waiting", x.arrival(0, 2, 0, 1), 120);
        Check.due("left an hour later", x.ride(2, 3, 180, 1, 0, 4), 180);
        Check.due("gone behind that", x.ride(2, 3, 181, 1, 0, 4), 1620);
        Check.argument("-1", () -> x.calls(0, 1, 10, -1));
        Check.argument("61", () -> x.calls(0, 1, 10, 61));
        Check.due("no stop is taken by that", x.calls(0, 1, 10, 0), 5);
    }

    private static void promise05WaitsAtTheLastStop() {
        Connectory x = Worlds.stops(3, 0);
        x.trip(0, 0, 1, 127, 0, 100);
        x.calls(0, 1, 10, 60);
        Check.due("reached ahead of the waiting", x.arrival(0, 1, 0, 1), 110);
        Check.due("nothing leaves there", x.arrival(1, 2, 0, 1), NONE);
        x.calls(0, 2, 10, 60);
        Check.due("till it goes on", x.arrival(1, 2, 170, 1), 180);
    }

    private static void promise05TheSixthStop() {
        Connectory x = Worlds.stops(6, 5);
        x.trip(0, 0, 1, 127, 0, 100);
        for (int i = 1; i < 6; i++) {
            Check.due("how many", x.calls(0, i, 10, 0), i + 1);
        }
        Check.due("gone to", x.arrival(0, 5, 0, 1), 150);
        Check.due("gone on by five stops", x.journey(0, 5, 0, 1, 1), 70.0);
    }

    private static void promise05TheSeventhStop() {
        Connectory x = Worlds.stops(7, 5);
        x.trip(0, 0, 1, 127, 0, 100);
        for (int i = 1; i < 6; i++) {
            x.calls(0, i, 10, 0);
        }
        Check.state("refused", () -> x.calls(0, 6, 10, 0));
        Check.state("refused again", () -> x.calls(0, 0, 1, 60));
        Check.due("not gone to", x.arrival(0, 6, 0, 1), NONE);
        Check.argument("out of range is thrown ahead of it", () -> x.calls(0, 6, 301, 0));
        Check.argument("waits too", () -> x.calls(0, 6, 10, 61));
        Check.index("no stop is thrown ahead of it", () -> x.calls(0, 7, 10, 0));
        Check.index("no trip is thrown ahead of all", () -> x.calls(1, 7, 301, 61));
    }

    private static void promise05AStopAtWhichItWas() {
        Connectory x = Worlds.stops(2, 5);
        x.trip(0, 0, 1, 127, 0, 100);
        Check.due("the same at once", x.calls(0, 0, 10, 0), 2);
        Check.due("another", x.calls(0, 1, 10, 0), 3);
        Check.due("the first again", x.calls(0, 0, 10, 0), 4);
        Check.due("boards at the first", x.ride(0, 1, 0, 1, 0, 4), 100);
        Check.due("boards at the second, the first being gone", x.ride(0, 1, 101, 1, 0, 4), 110);
        Check.due("and back", x.arrival(1, 0, 0, 1), 130);
    }

    private static void promise05TheLongestTrip() {
        Connectory x = Worlds.stops(6, 5);
        x.trip(0, 0, 1, 1, 0, 1439);
        for (int i = 1; i < 6; i++) {
            x.calls(0, i, 300, 60);
        }
        x.delay(0, 0, 600);
        Check.due("departs a day later", x.ride(0, 5, 0, 1, 0, 4), 2039);
        Check.due("arrives two days later", x.ride(0, 5, 0, 1, 0, 5), 2039 + 5 * 300 + 4 * 60);
        Check.due("of the day 0", x.ride(0, 5, 0, 1, 0, 1), 0);
        Check.due("seen on the day 1", x.arrival(2, 5, 2759, 1), 3779);
        Check.due("departed", x.arrival(2, 5, 2760, 1), NONE);
        Check.due("departs on the day 2, seen on the day 1", x.arrival(4, 5, 2879, 1), 3779);
        Check.due("not seen on the day 2", x.arrival(4, 5, 2880, 1), NONE);
    }

    private static void promise05FirstAndLastTripAndStop() {
        Connectory x = Worlds.stops(10, 5);
        for (int i = 0; i < 20; i++) {
            x.trip(0, 0, 1, 127, 4, 100);
        }
        Check.due("the first trip, the last stop", x.calls(0, 9, 10, 0), 2);
        Check.due("the last trip, the first stop", x.calls(19, 0, 10, 0), 2);
        Check.index("trip -1", () -> x.calls(-1, 0, 10, 0));
        Check.index("trip 20", () -> x.calls(20, 0, 10, 0));
        Check.index("stop -1", () -> x.calls(0, -1, 10, 0));
        Check.index("stop 10", () -> x.calls(0, 10, 10, 0));
        Check.due("no stop is taken by that", x.calls(0, 0, 10, 0), 3);
    }

    private static void promise05WithABookingHeld() {
        Connectory x = Worlds.chain(2);
        Check.due("ahead of it", x.calls(0, 0, 10, 0), 3);
        x.book(0, 2, 0, 2);
        Check.state("its first ride", () -> x.calls(0, 1, 10, 0));
        Check.state("its last ride", () -> x.calls(1, 0, 10, 0));
        Check.argument("out of range is thrown ahead of it", () -> x.calls(0, 1, 0, 0));
        Check.index("no stop is thrown ahead of it", () -> x.calls(0, 3, 10, 0));
        Check.due("no stop is taken by that", x.arrival(2, 0, 0, 1), NONE);
    }

    private static void promise05WithABookingBought() {
        Connectory x = Worlds.chain(1);
        x.book(0, 1, 0, 1);
        x.buy(0);
        Check.state("refused", () -> x.calls(0, 0, 10, 0));
    }

    private static void promise05WithABookingDropped() {
        Connectory x = Worlds.chain(1);
        x.book(0, 1, 0, 1);
        x.pass(31);
        Check.due("dropped", x.ofBooking(0, 0), Connectory.DROPPED);
        Check.state("refused", () -> x.calls(0, 0, 10, 0));
    }

    private static void promise05WithABookingClaimed() {
        Connectory x = Worlds.chain(1);
        x.prices(0, 10, 0, 0);
        x.book(0, 1, 0, 1);
        x.buy(0);
        x.runs(0, 0, false);
        x.claim(0);
        Check.due("claimed", x.ofBooking(0, 0), Connectory.CLAIMED);
        Check.state("refused", () -> x.calls(0, 0, 10, 0));
    }

    private static void promise05WithABookingOfAnotherDay() {
        Connectory x = Worlds.chain(1);
        x.book(0, 1, 99 * 1440 - 2880, 1);
        Check.state("refused", () -> x.calls(0, 0, 10, 0));
    }

    private static void promise05WithABookingOfAnotherTrip() {
        Connectory x = Worlds.chain(2);
        x.book(1, 2, 0, 1);
        Check.due("goes on", x.calls(0, 0, 10, 0), 3);
        Check.state("the other does not", () -> x.calls(1, 0, 10, 0));
    }

    private static void promise05WithABookingThatWasRefused() {
        Connectory x = Worlds.stops(3, 0);
        x.trip(0, 0, 1, 127, 1, 100);
        x.calls(0, 2, 10, 0);
        Worlds.line(x, 0, 50, 1, 10);
        x.book(1, 2, 0, 1);
        Check.state("no seat in the last ride", () -> x.book(0, 2, 0, 2));
        Check.due("the first one goes on", x.calls(1, 2, 10, 0), 3);
    }

    // ---- promise 6: runs.

    private static void promise06FirstAndLastDay() {
        Connectory x = Worlds.chain(1);
        Check.due("day 0", x.runs(0, 0, false));
        Check.due("day 0, as told", !x.runs(0, 0, false));
        Check.due("day 99", x.runs(0, 99, false));
        Check.due("day 99, as told", !x.runs(0, 99, true));
        Check.due("day 98 is its own", x.runs(0, 98, true));
        Check.due("day 1 is its own", x.runs(0, 1, true));
        Check.argument("day -1", () -> x.runs(0, -1, true));
        Check.argument("day 100", () -> x.runs(0, 100, true));
        Check.argument("the least number", () -> x.runs(0, Integer.MIN_VALUE, true));
        Check.argument("the largest number", () -> x.runs(0, Integer.MAX_VALUE, true));
        Check.due("day 0 stays", !x.runs(0, 0, false));
        Check.due("day 99 stays", x.runs(0, 99, false));
    }

    private static void promise06OfOneDayAlone() {
        Connectory x = Worlds.stops(2, 5);
        Worlds.lineOf(x, 1, 0, 100, 1, 10);
        Check.due("not on day 1", !x.runs(0, 1, true));
        Check.due("on day 1 now", x.arrival(0, 1, 1440, 1), 1550);
        Check.due("not on day 8", x.arrival(0, 1, 8 * 1440, 1), NONE);
        Check.due("it is told", !x.runs(0, 8, true));
        Check.due("day 0 as ever", x.arrival(0, 1, 0, 1), 110);
        x.runs(0, 0, false);
        Check.due("day 7 as ever", x.arrival(0, 1, 7 * 1440, 1), 7 * 1440 + 110);
    }

    private static void promise06OfOneTripAlone() {
        Connectory x = Worlds.chain(2);
        x.runs(0, 0, false);
        Check.due("the other as ever", x.runs(1, 0, true));
        Check.due("this one not", x.arrival(0, 1, 0, 1), 1550);
    }

    private static void promise06FirstAndLastTrip() {
        Connectory x = Worlds.stops(2, 5);
        for (int i = 0; i < 20; i++) {
            x.trip(0, 0, 1, 1, 0, 0);
        }
        Check.due("the first", x.runs(0, 0, true));
        Check.due("the last", x.runs(19, 0, true));
        Check.index("-1", () -> x.runs(-1, 0, true));
        Check.index("20", () -> x.runs(20, 0, true));
        Check.index("no trip is thrown ahead of out of range", () -> x.runs(20, 100, true));
        Check.index("and ahead of day -1", () -> x.runs(-1, -1, true));
    }

    private static void promise06NotThereAndCancelledAreTwo() {
        Connectory x = Worlds.chain(1);
        x.delay(0, 0, NONE);
        Check.due("a cancelled run is told to run", x.runs(0, 0, false));
        x.delay(0, 0, 0);
        Check.due("not there", x.arrival(0, 1, 0, 1), 1550);
        Check.due("it did not", !x.runs(0, 0, true));
        Check.due("there again", x.arrival(0, 1, 0, 1), 110);
    }

    // ---- promise 7: delay.

    private static void promise07LeastAndMostMinutes() {
        Connectory x = Worlds.chain(1);
        Check.due("600", x.delay(0, 0, 600), 0);
        Check.due("600 minutes later", x.arrival(0, 1, 0, 1), 710);
        Check.due("0", x.delay(0, 0, 0), 600);
        Check.due("in time", x.arrival(0, 1, 0, 1), 110);
        Check.due("1", x.delay(0, 0, 1), 0);
        Check.due("a minute later", x.arrival(0, 1, 0, 1), 111);
        Check.argument("-2", () -> x.delay(0, 0, -2));
        Check.argument("601", () -> x.delay(0, 0, 601));
        Check.argument("the least number", () -> x.delay(0, 0, Integer.MIN_VALUE));
        Check.argument("the largest number", () -> x.delay(0, 0, Integer.MAX_VALUE));
        Check.due("it stays", x.delay(0, 0, 1), 1);
    }

    private static void promise07NoneCancels() {
        Connectory x = Worlds.chain(1);
        Check.due("0 before", x.delay(0, 0, NONE), 0);
        Check.due("not by it", x.arrival(0, 1, 0, 1), 1550);
        Check.due("cancelled before", x.delay(0, 0, NONE), NONE);
        Check.due("cancelled still", x.delay(0, 0, 5), NONE);
        Check.due("with a delay", x.arrival(0, 1, 0, 1), 115);
    }

    private static void promise07FirstAndLastDay() {
        Connectory x = Worlds.chain(1);
        Check.due("day 0", x.delay(0, 0, 5), 0);
        Check.due("day 99", x.delay(0, 99, 600), 0);
        Check.due("day 1 is its own", x.delay(0, 1, 0), 0);
        Check.due("day 98 is its own", x.delay(0, 98, 0), 0);
        Check.argument("day -1", () -> x.delay(0, -1, 5));
        Check.argument("day 100", () -> x.delay(0, 100, 5));
        Check.due("day 0 stays", x.delay(0, 0, 5), 5);
        Check.due("day 99 stays", x.delay(0, 99, 0), 600);
    }

    private static void promise07PastMidnightByAMinute() {
        Connectory x = Worlds.stops(2, 5);
        Worlds.line(x, 0, 1439, 1, 10);
        x.delay(0, 0, 1);
        Check.due("it departs as the day 1 begins", x.ride(0, 1, 1440, 1, 0, 4), 1440);
        Check.due("it is of the day 0", x.ride(0, 1, 1440, 1, 0, 1), 0);
        Check.due("a minute later it is gone", x.ride(0, 1, 1441, 1, 0, 1), 1);
        Check.due("from the day 0 it is seen too", x.arrival(0, 1, 1439, 1), 1450);
    }

    private static void promise07PastMidnightByTenHours() {
        Connectory x = Worlds.stops(2, 5);
        Worlds.lineOf(x, 1, 0, 1439, 1, 300);
        x.delay(0, 0, 600);
        Check.due("just in time", x.arrival(0, 1, 2039, 1), 2339);
        Check.due("a minute later", x.arrival(0, 1, 2040, 1), NONE);
        Check.due("seats of its own day", x.book(0, 1, 2039, 1), 0);
        Check.due("day 0", x.seats(0, 0), 99);
        Check.due("day 1", x.seats(0, 1), 100);
    }

    private static void promise07OfARunThatIsNotThere() {
        Connectory x = Worlds.stops(2, 5);
        Worlds.lineOf(x, 1, 0, 100, 1, 10);
        Check.due("told", x.delay(0, 1, 30), 0);
        Check.due("not there all the same", x.arrival(0, 1, 1440, 1), NONE);
        x.runs(0, 1, true);
        Check.due("kept", x.arrival(0, 1, 1440, 1), 1580);
    }

    private static void promise07AllItsTimes() {
        Connectory x = Worlds.stops(3, 5);
        x.trip(0, 0, 1, 127, 0, 100);
        x.calls(0, 1, 10, 5);
        x.calls(0, 2, 10, 0);
        x.delay(0, 0, 7);
        Check.due("departs first", x.ride(0, 2, 0, 1, 0, 4), 107);
        Check.due("arrives between", x.ride(0, 1, 0, 1, 0, 5), 117);
        Check.due("departs between", x.ride(1, 2, 0, 1, 0, 4), 122);
        Check.due("arrives last", x.ride(1, 2, 0, 1, 0, 5), 132);
        Check.due("not of the day behind", x.ride(0, 2, 108, 1, 0, 4), 1540);
    }

    private static void promise07NoTripIsThrownAheadOfOutOfRange() {
        Connectory x = Worlds.chain(1);
        Check.index("-1", () -> x.delay(-1, 0, 0));
        Check.index("1", () -> x.delay(1, 0, 0));
        Check.index("day 100", () -> x.delay(1, 100, 0));
        Check.index("minutes -2", () -> x.delay(-1, 0, -2));
        Check.index("all three", () -> x.delay(1, -1, 601));
    }

    // ---- promise 8: note.

    private static void promise08LeastAndMostMinutes() {
        Connectory x = Worlds.chain(1);
        Check.due("0", x.note(0, 0), 1);
        Check.due("600", x.note(0, 600), 2);
        Check.argument("-1", () -> x.note(0, -1));
        Check.argument("601", () -> x.note(0, 601));
        Check.argument("the least number", () -> x.note(0, Integer.MIN_VALUE));
        Check.argument("the largest number", () -> x.note(0, Integer.MAX_VALUE));
        Check.due("none is noted by that", x.note(0, 0), 3);
    }

    private static void promise08TheThirtiethDelay() {
        Connectory x = Worlds.chain(2);
        for (int i = 1; i < 30; i++) {
            Check.due("how many", x.note(0, 5), i);
        }
        Check.due("chance of 29 late ones", x.journey(0, 2, 0, 2, 0), 0.0);
        Check.due("the thirtieth", x.note(0, 0), 30);
        Check.due("it counts", x.journey(0, 2, 0, 2, 0), 1.0 / 30.0);
    }

    private static void promise08TheThirtyFirstDelay() {
        Connectory x = Worlds.chain(2);
        for (int i = 0; i < 30; i++) {
            x.note(0, 5);
        }
        Check.state("refused", () -> x.note(0, 0));
        Check.state("refused again", () -> x.note(0, 600));
        Check.due("none is noted by that", x.journey(0, 2, 0, 2, 0), 0.0);
        Check.argument("out of range is thrown ahead of full", () -> x.note(0, 601));
        Check.argument("-1 too", () -> x.note(0, -1));
        Check.index("no trip is thrown ahead of all", () -> x.note(2, 601));
        Check.due("another trip has its own", x.note(1, 0), 1);
    }

    private static void promise08FirstAndLastTrip() {
        Connectory x = Worlds.stops(1, 5);
        for (int i = 0; i < 20; i++) {
            x.trip(0, 0, 1, 1, 0, 0);
        }
        Check.due("the first", x.note(0, 9), 1);
        Check.due("the last", x.note(19, 9), 1);
        Check.index("-1", () -> x.note(-1, 9));
        Check.index("20", () -> x.note(20, 9));
    }

    // ---- promise 9: prices.

    private static void promise09LeastAndMostBase() {
        Connectory x = Worlds.chain(1);
        x.prices(0, 10000, 0, 0);
        Check.due("10000", x.journey(0, 1, 0, 1, 3), 10000.0);
        Check.argument("10001", () -> x.prices(0, 10001, 0, 0));
        Check.argument("-1", () -> x.prices(0, -1, 0, 0));
        Check.due("it stays", x.journey(0, 1, 0, 1, 3), 10000.0);
        x.prices(0, 0, 0, 0);
        Check.due("0", x.journey(0, 1, 0, 1, 3), 0.0);
    }

    private static void promise09LeastAndMostCents() {
        Connectory x = Worlds.chain(1);
        x.prices(0, 0, 1000, 0);
        Check.due("1000", x.journey(0, 1, 0, 1, 3), 1000.0);
        Check.argument("1001", () -> x.prices(0, 0, 1001, 0));
        Check.argument("-1", () -> x.prices(0, 0, -1, 0));
        Check.due("it stays", x.journey(0, 1, 0, 1, 3), 1000.0);
    }

    private static void promise09LeastAndMostSurcharge() {
        Connectory x = Worlds.stops(5, 0);
        x.trip(0, 0, 1, 127, 0, 100);
        for (int i = 1; i < 5; i++) {
            x.calls(0, i, 10, 0);
        }
        x.prices(0, 0, 0, 10000);
        Check.due("10000", x.journey(0, 4, 0, 1, 3), 10000.0);
        Check.argument("10001", () -> x.prices(0, 0, 0, 10001));
        Check.argument("-1", () -> x.prices(0, 0, 0, -1));
        Check.argument("the largest number", () -> x.prices(0, 0, 0, Integer.MAX_VALUE));
        Check.due("it stays", x.journey(0, 4, 0, 1, 3), 10000.0);
        Check.due("not of three stops", x.journey(0, 3, 0, 1, 3), 0.0);
    }

    private static void promise09FirstAndLastFirm() {
        Connectory x = Worlds.stops(4, 5);
        for (int firm = 0; firm < 3; firm++) {
            x.trip(0, firm, 1, 127, firm, 100);
            x.calls(firm, firm + 1, 10, 0);
            Check.due("0 at first", x.journey(firm, firm + 1, 0, 1, 3), 0.0);
        }
        x.prices(0, 1, 0, 0);
        x.prices(2, 3, 0, 0);
        Check.due("firm 0", x.journey(0, 1, 0, 1, 3), 1.0);
        Check.due("firm 1 as ever", x.journey(1, 2, 0, 1, 3), 0.0);
        Check.due("firm 2", x.journey(2, 3, 0, 1, 3), 3.0);
        Check.index("-1", () -> x.prices(-1, 1, 1, 1));
        Check.index("3", () -> x.prices(3, 1, 1, 1));
        Check.index("the least number", () -> x.prices(Integer.MIN_VALUE, 1, 1, 1));
        Check.index("no firm is thrown ahead of a base out of range", () -> x.prices(3, 10001, 1, 1));
        Check.index("of cents", () -> x.prices(-1, 1, 1001, 1));
        Check.index("of a surcharge", () -> x.prices(3, 1, 1, -1));
    }

    private static void promise09OneWrongPriceSetsNone() {
        Connectory x = Worlds.chain(1);
        x.prices(0, 7, 1, 0);
        Check.argument("the surcharge alone is wrong", () -> x.prices(0, 100, 100, 10001));
        Check.argument("the cents alone are wrong", () -> x.prices(0, 100, 1001, 100));
        Check.due("they stay", x.journey(0, 1, 0, 1, 3), 8.0);
    }
}
