/** Each promise by hand: ordinary inputs, the edges that the document names, and wrong inputs. */
final class PromisesTest {
    private static final int NONE = Connectory.NONE;

    private PromisesTest() {
    }

    public static void main(String[] args) {
        newObject();
        stops();
        footways();
        trips();
        callsOfTrips();
        runsOfTrips();
        delays();
        notes();
        prices();
        arrivals();
        daysLookedAt();
        arrivalsAnew();
        fronts();
        rides();
        ridesByTheRule();
        journeys();
        fares();
        bests();
        books();
        buys();
        rights();
        claims();
        concerned();
        seats();
        passes();
        ofBookings();
        Check.end("PromisesTest");
    }

    private static Connectory withStops(int count, int transfer) {
        Connectory x = new Connectory();
        for (int i = 0; i < count; i++) {
            x.stop(transfer);
        }
        return x;
    }

    /** A daily train of firm 0, leaving stop at minute and reaching the other one behind so many minutes. */
    private static int shuttle(Connectory x, int stop, int minute, int other, int rides) {
        int trip = x.trip(0, 0, 100, 127, stop, minute);
        x.calls(trip, other, rides, 0);
        return trip;
    }

    private static void newObject() {
        Connectory x = new Connectory();
        Check.index("1: no stops", () -> x.footway(0, 1, 5));
        Check.index("1: no way without stops", () -> x.arrival(0, 1, 0, 1));
        Check.index("1: no trips", () -> x.note(0, 0));
        Check.index("1: no bookings", () -> x.ofBooking(0, 0));
        Check.due("1: nothing to drop", x.pass(1440), 0);
        Check.due("1: the first stop", x.stop(0), 0);
        Check.due("1: the first trip", x.trip(0, 0, 1, 1, 0, 0), 0);
        Check.due("1: constants", Connectory.NONE + ":" + Connectory.HELD + Connectory.BOUGHT + Connectory.DROPPED
            + Connectory.CLAIMED, "-1:0123");
        Connectory other = new Connectory();
        Check.index("1: objects share nothing", () -> other.trip(0, 0, 1, 1, 0, 0));
    }

    private static void stops() {
        Connectory x = new Connectory();
        Check.argument("2: transfer below", () -> x.stop(-1));
        Check.argument("2: transfer above", () -> x.stop(61));
        Check.due("2: least", x.stop(0), 0);
        Check.due("2: most", x.stop(60), 1);
        for (int i = 2; i < 10; i++) {
            Check.due("2: number", x.stop(i), i);
        }
        Check.state("2: there are 10", () -> x.stop(5));
        Check.argument("2: the argument comes first", () -> x.stop(61));
        Check.argument("2: the argument comes first", () -> x.stop(Integer.MIN_VALUE));
    }

    private static void footways() {
        Connectory x = withStops(3, 5);
        Check.due("3: none before", x.footway(0, 1, 20), NONE);
        Check.due("3: and back", x.footway(1, 0, 120), 20);
        Check.due("3: in place of one", x.footway(0, 1, 1), 120);
        Check.due("3: taken away", x.footway(0, 1, NONE), 1);
        Check.due("3: none again", x.footway(1, 0, NONE), NONE);
        Check.due("3: of other stops", x.footway(2, 1, 7), NONE);
        Check.due("3: of just these", x.footway(2, 0, 8), NONE);
        Check.argument("3: both are one", () -> x.footway(1, 1, 5));
        Check.argument("3: both are one, none", () -> x.footway(1, 1, NONE));
        Check.argument("3: no minutes", () -> x.footway(0, 1, 0));
        Check.argument("3: below", () -> x.footway(0, 1, -2));
        Check.argument("3: above", () -> x.footway(0, 1, 121));
        Check.index("3: no such stop", () -> x.footway(3, 1, 5));
        Check.index("3: no such other", () -> x.footway(0, 3, 5));
        Check.index("3: below 0", () -> x.footway(-1, 0, 5));
        Check.index("3: other below 0", () -> x.footway(0, -1, 5));
        Check.index("3: the stop comes first", () -> x.footway(9, 9, 500));
        Check.index("3: the other comes first", () -> x.footway(0, 10, 0));
    }

    private static void trips() {
        Connectory x = withStops(2, 5);
        Check.due("4: least", x.trip(0, 0, 1, 1, 0, 0), 0);
        Check.due("4: most", x.trip(2, 2, 100, 127, 1, 1439), 1);
        Check.due("4: its seats", x.seats(1, 0), 100);
        Check.argument("4: mode below", () -> x.trip(-1, 0, 1, 1, 0, 0));
        Check.argument("4: mode above", () -> x.trip(3, 0, 1, 1, 0, 0));
        Check.argument("4: no seats", () -> x.trip(0, 0, 0, 1, 0, 0));
        Check.argument("4: seats above", () -> x.trip(0, 0, 101, 1, 0, 0));
        Check.argument("4: no days", () -> x.trip(0, 0, 1, 0, 0, 0));
        Check.argument("4: days above", () -> x.trip(0, 0, 1, 128, 0, 0));
        Check.argument("4: minute below", () -> x.trip(0, 0, 1, 1, 0, -1));
        Check.argument("4: minute above", () -> x.trip(0, 0, 1, 1, 0, 1440));
        Check.index("4: firm below", () -> x.trip(0, -1, 1, 1, 0, 0));
        Check.index("4: firm above", () -> x.trip(0, 3, 1, 1, 0, 0));
        Check.index("4: stop below", () -> x.trip(0, 0, 1, 1, -1, 0));
        Check.index("4: no such stop", () -> x.trip(0, 0, 1, 1, 2, 0));
        Check.index("4: the firm comes first", () -> x.trip(9, 3, 0, 0, 0, -1));
        Check.index("4: the stop comes first", () -> x.trip(9, 0, 0, 0, 2, -1));
        for (int i = 2; i < 20; i++) {
            Check.due("4: number", x.trip(i % 3, i % 3, i, i, 0, i), i);
        }
        Check.state("4: there are 20", () -> x.trip(0, 0, 1, 1, 0, 0));
        Check.argument("4: the argument comes first", () -> x.trip(3, 0, 1, 1, 0, 0));
        Check.index("4: the index comes first", () -> x.trip(0, 0, 1, 1, 2, 0));
    }

    private static void callsOfTrips() {
        Connectory x = withStops(3, 5);
        x.trip(0, 0, 5, 127, 0, 100);
        Check.due("5: a trip with one stop runs nowhere", x.arrival(0, 1, 0, 1), NONE);
        Check.due("5: two", x.calls(0, 1, 300, 60), 2);
        Check.due("5: three, at which it was", x.calls(0, 0, 1, 0), 3);
        Check.due("5: four, the same", x.calls(0, 0, 10, 4), 4);
        Check.due("5: five", x.calls(0, 2, 10, 4), 5);
        Check.due("5: reached", x.ride(0, 1, 0, 1, 0, 5), 400);
        Check.due("5: behind the waiting", x.ride(0, 2, 0, 1, 0, 5), 100 + 300 + 60 + 1 + 10 + 4 + 10);
        Check.argument("5: no minutes", () -> x.calls(0, 1, 0, 0));
        Check.argument("5: rides above", () -> x.calls(0, 1, 301, 0));
        Check.argument("5: waits below", () -> x.calls(0, 1, 1, -1));
        Check.argument("5: waits above", () -> x.calls(0, 1, 1, 61));
        Check.index("5: no such trip", () -> x.calls(1, 1, 1, 0));
        Check.index("5: trip below", () -> x.calls(-1, 1, 1, 0));
        Check.index("5: no such stop", () -> x.calls(0, 3, 1, 0));
        Check.index("5: stop below", () -> x.calls(0, -1, 1, 0));
        Check.index("5: the trip comes first", () -> x.calls(1, 1, 0, 99));
        Check.index("5: the stop comes first", () -> x.calls(0, 3, 0, 99));
        Check.due("5: six", x.calls(0, 1, 1, 0), 6);
        Check.state("5: it has 6", () -> x.calls(0, 1, 1, 0));
        Check.argument("5: the argument comes first", () -> x.calls(0, 1, 0, 0));
        Check.index("5: the index comes first", () -> x.calls(0, 3, 1, 0));
        callsOfBookedTrips();
    }

    private static void callsOfBookedTrips() {
        Connectory x = withStops(4, 5);
        shuttle(x, 0, 100, 1, 10);
        shuttle(x, 1, 200, 2, 10);
        shuttle(x, 2, 300, 3, 10);
        x.book(0, 2, 0, 2);
        Check.state("5: it has a booking", () -> x.calls(0, 2, 1, 0));
        Check.state("5: the second ride too", () -> x.calls(1, 3, 1, 0));
        Check.due("5: one without", x.calls(2, 0, 1, 0), 3);
        x.pass(31);
        Check.due("5: dropped", x.ofBooking(0, 0), Connectory.DROPPED);
        Check.state("5: a dropped one too", () -> x.calls(0, 2, 1, 0));
        Check.argument("5: the argument comes first there", () -> x.calls(0, 2, 1, 61));
    }

    private static void runsOfTrips() {
        Connectory x = withStops(2, 5);
        int trip = x.trip(0, 0, 5, 1 + 4 + 64, 0, 100);
        x.calls(trip, 1, 10, 0);
        for (int day = 0; day < 100; day++) {
            boolean due = day % 7 == 0 || day % 7 == 2 || day % 7 == 6;
            Check.due("6: of the week, day " + day, x.runs(0, day, due) == due);
        }
        Check.due("6: it did not", !x.runs(0, 1, true));
        Check.due("6: it does now", x.arrival(0, 1, 1440, 1), 1550);
        Check.due("6: it did", x.runs(0, 1, false));
        Check.due("6: the same told", !x.runs(0, 1, false));
        Check.due("6: no run", x.arrival(0, 1, 1440, 1), 2990);
        x.delay(0, 2, NONE);
        Check.due("6: a cancelled one runs as told", x.runs(0, 2, true));
        Check.due("6: and stays cancelled", x.arrival(0, 1, 1440, 1), NONE);
        Check.argument("6: day below", () -> x.runs(0, -1, true));
        Check.argument("6: day above", () -> x.runs(0, 100, true));
        Check.index("6: no such trip", () -> x.runs(1, 0, true));
        Check.index("6: trip below", () -> x.runs(-1, 0, true));
        Check.index("6: the trip comes first", () -> x.runs(1, 100, true));
    }

    private static void delays() {
        Connectory x = withStops(2, 5);
        x.trip(0, 0, 5, 1, 0, 100);
        x.calls(0, 1, 10, 5);
        x.calls(0, 0, 10, 0);
        Check.due("7: 0 at first", x.delay(0, 0, 600), 0);
        Check.due("7: later", x.arrival(0, 1, 0, 1), 710);
        Check.due("7: all its times", x.arrival(1, 0, 0, 1), 725);
        Check.due("7: its departures", x.ride(1, 0, 0, 1, 0, 4), 715);
        Check.due("7: cancelled", x.delay(0, 0, NONE), 600);
        Check.due("7: no journey", x.arrival(0, 1, 0, 1), NONE);
        Check.due("7: no more", x.delay(0, 0, 0), NONE);
        Check.due("7: as before", x.arrival(0, 1, 0, 1), 110);
        Check.due("7: of a day without run", x.delay(0, 1, 7), 0);
        Check.due("7: in place of before", x.delay(0, 1, 3), 7);
        x.runs(0, 1, true);
        Check.due("7: kept for an exception", x.arrival(0, 1, 1440, 1), 1553);
        Check.due("7: the last day", x.delay(0, 99, 1), 0);
        Check.argument("7: day below", () -> x.delay(0, -1, 0));
        Check.argument("7: day above", () -> x.delay(0, 100, 0));
        Check.argument("7: minutes below", () -> x.delay(0, 0, -2));
        Check.argument("7: minutes above", () -> x.delay(0, 0, 601));
        Check.index("7: no such trip", () -> x.delay(1, 0, 0));
        Check.index("7: the trip comes first", () -> x.delay(-1, 100, -2));
    }

    private static void notes() {
        Connectory x = withStops(1, 5);
        x.trip(0, 0, 5, 1, 0, 100);
        x.trip(0, 0, 5, 1, 0, 100);
        Check.argument("8: below", () -> x.note(0, -1));
        Check.argument("8: above", () -> x.note(0, 601));
        Check.index("8: no such trip", () -> x.note(2, 0));
        Check.index("8: the trip comes first", () -> x.note(-1, 601));
        for (int i = 1; i <= 30; i++) {
            Check.due("8: how many", x.note(0, i * 20), i);
        }
        Check.state("8: there are 30", () -> x.note(0, 0));
        Check.argument("8: the argument comes first", () -> x.note(0, 601));
        Check.due("8: of another", x.note(1, 0), 1);
    }

    private static void prices() {
        Connectory x = withStops(2, 5);
        shuttle(x, 0, 100, 1, 10);
        Check.due("9: 0 at first", x.journey(0, 1, 0, 1, 3), 0.0);
        x.prices(0, 10000, 1000, 10000);
        x.prices(2, 0, 0, 0);
        Check.due("9: set", x.journey(0, 1, 0, 1, 3), 11000.0);
        x.prices(0, 7, 5, 3);
        Check.due("9: set again", x.journey(0, 1, 0, 1, 3), 12.0);
        Check.argument("9: base below", () -> x.prices(0, -1, 0, 0));
        Check.argument("9: base above", () -> x.prices(0, 10001, 0, 0));
        Check.argument("9: cents below", () -> x.prices(0, 0, -1, 0));
        Check.argument("9: cents above", () -> x.prices(0, 0, 1001, 0));
        Check.argument("9: surcharge below", () -> x.prices(0, 0, 0, -1));
        Check.argument("9: surcharge above", () -> x.prices(0, 0, 0, 10001));
        Check.index("9: no such firm", () -> x.prices(3, 0, 0, 0));
        Check.index("9: the firm comes first", () -> x.prices(-1, -1, -1, -1));
        Check.due("9: nothing changed", x.journey(0, 1, 0, 1, 3), 12.0);
    }

    private static void arrivals() {
        Connectory x = withStops(5, 5);
        shuttle(x, 0, 100, 1, 20);
        shuttle(x, 1, 125, 2, 20);
        shuttle(x, 1, 124, 3, 20);
        Check.due("10: one is ready at once", x.arrival(0, 1, 100, 1), 120);
        Check.due("10: and not later", x.arrival(0, 1, 101, 1), 1560);
        Check.due("10: a transfer", x.arrival(0, 2, 100, 2), 145);
        Check.due("10: too late by a minute", x.arrival(0, 3, 100, 2), 1584);
        Check.due("10: just so many", x.arrival(0, 2, 100, 1), NONE);
        Check.due("10: just so many rides", x.arrival(0, 1, 100, 2), NONE);
        x.footway(4, 0, 10);
        Check.due("10: on foot ahead", x.arrival(4, 1, 90, 1), 120);
        Check.due("10: on foot too late", x.arrival(4, 1, 91, 1), 1560);
        x.footway(2, 4, 3);
        Check.due("10: on foot behind", x.arrival(0, 4, 100, 2), 148);
        x.footway(1, 2, 4);
        Check.due("10: by foot to the goal, with no transfer", x.arrival(0, 2, 100, 1), 124);
        Check.due("10: one footway alone", x.arrival(0, 4, 100, 1), NONE);
        shuttle(x, 2, 124, 3, 1);
        Check.due("10: on foot between", x.arrival(0, 3, 100, 2), 125);
        Check.due("10: the last time", x.arrival(0, 1, 140000, 1), 98 * 1440 + 120);
        Connectory y = withStops(4, 5);
        shuttle(y, 2, 100, 0, 10);
        shuttle(y, 0, 115, 3, 10);
        shuttle(y, 1, 117, 3, 1);
        Check.due("10: a transfer at the stop 0", y.arrival(2, 3, 0, 2), 125);
        y.footway(0, 1, 7);
        Check.due("10: on foot from the stop 0", y.arrival(2, 3, 0, 2), 118);
        Check.due("10: on foot from the stop 0 to the goal", y.arrival(2, 1, 0, 1), 117);
        Check.due("13: the stop 0 ahead", y.ride(2, 3, 0, 2, 0, 3), 0);
        Check.due("13: the stop 0 last", y.ride(2, 1, 0, 1, 0, 3), 0);
        wrongWays("10", (from, to, time, rides) -> x.arrival(from, to, time, rides), x, 4);
    }

    private interface Way {
        void go(int from, int to, int time, int rides);
    }

    /** The wrong inputs of a way by up to so many rides, in an object of five stops. */
    private static void wrongWays(String name, Way way, Connectory x, int most) {
        Check.index(name + ": from below", () -> way.go(-1, 1, 0, 1));
        Check.index(name + ": no such from", () -> way.go(5, 1, 0, 1));
        Check.index(name + ": to below", () -> way.go(0, -1, 0, 1));
        Check.index(name + ": no such to", () -> way.go(0, 5, 0, 1));
        Check.index(name + ": the stops come first", () -> way.go(7, 7, -1, 0));
        Check.index(name + ": to comes first", () -> way.go(0, 5, 140001, 9));
        Check.argument(name + ": both are one", () -> way.go(1, 1, 0, 1));
        Check.argument(name + ": time below", () -> way.go(0, 1, -1, 1));
        Check.argument(name + ": time above", () -> way.go(0, 1, 140001, 1));
        if (most > 0) {
            Check.argument(name + ": no rides", () -> way.go(0, 1, 0, 0));
            Check.argument(name + ": rides above", () -> way.go(0, 1, 0, most + 1));
            Check.argument(name + ": rides below", () -> way.go(0, 1, 0, Integer.MIN_VALUE));
        }
    }

    private static void daysLookedAt() {
        Connectory x = withStops(3, 0);
        int early = x.trip(0, 0, 5, 2, 0, 1400);
        x.calls(early, 1, 10, 0);
        int late = x.trip(0, 0, 5, 4, 1, 10);
        x.calls(late, 2, 10, 0);
        Check.due("10: the day behind", x.arrival(0, 1, 0, 1), 1440 + 1410);
        Check.due("10: days of the journey's time, not of a later one", x.arrival(0, 2, 1439, 2), NONE);
        Check.due("11: these too", x.arrivalAnew(0, 2, 1439, 2), NONE);
        Check.due("10: two days later of its day ahead", x.arrival(0, 2, 1440, 2), 2880 + 20);
        Check.due("11: two days later of its day ahead", x.arrivalAnew(0, 2, 1440, 2), 2880 + 20);
        x.delay(early, 1, 600);
        Check.due("10: the day ahead", x.arrival(0, 1, 2880 + 560, 1), 2880 + 570);
        Check.due("10: departed", x.arrival(0, 1, 2880 + 561, 1), NONE);
        Check.due("10: of a run that leaves two days later", x.arrival(0, 1, 4320, 1), NONE);
        x.calls(early, 0, 300, 60);
        x.calls(early, 0, 300, 60);
        x.calls(early, 0, 300, 60);
        x.calls(early, 1, 300, 0);
        Check.due("10: seen the day behind", x.arrival(0, 1, 4319, 1), 1440 + 1410 + 1080 + 300 + 600);
        Check.due("10: not seen two days behind", x.arrival(0, 1, 4320, 1), NONE);
        Check.due("11: not seen two days behind", x.arrivalAnew(0, 1, 4320, 1), NONE);
        Connectory y = withStops(2, 0);
        shuttle(y, 0, 0, 1, 10);
        Check.due("10: the day behind that of the last time", y.arrival(0, 1, 140000, 1), 98 * 1440 + 10);
        y.delay(0, 98, NONE);
        Check.due("10: but no later one", y.arrival(0, 1, 140000, 1), NONE);
        Check.due("11: but no later one", y.arrivalAnew(0, 1, 140000, 1), NONE);
    }

    private static void arrivalsAnew() {
        Connectory x = withStops(5, 5);
        shuttle(x, 0, 100, 1, 20);
        shuttle(x, 1, 125, 2, 20);
        shuttle(x, 1, 124, 3, 20);
        x.footway(4, 0, 10);
        Check.due("11: one ride", x.arrivalAnew(0, 1, 100, 1), 120);
        Check.due("11: the day behind", x.arrivalAnew(0, 1, 101, 1), 1560);
        Check.due("11: a transfer", x.arrivalAnew(0, 2, 100, 2), 145);
        Check.due("11: too late by a minute", x.arrivalAnew(0, 3, 100, 2), 1584);
        Check.due("11: just so many rides", x.arrivalAnew(0, 1, 100, 2), NONE);
        Check.due("11: on foot ahead", x.arrivalAnew(4, 1, 90, 1), 120);
        Check.due("11: on foot too late", x.arrivalAnew(4, 1, 91, 1), 1560);
        x.footway(1, 2, 4);
        Check.due("11: on foot behind", x.arrivalAnew(0, 2, 100, 1), 124);
        shuttle(x, 2, 124, 3, 1);
        Check.due("11: on foot between", x.arrivalAnew(0, 3, 100, 2), 125);
        wrongWays("11", (from, to, time, rides) -> x.arrivalAnew(from, to, time, rides), x, 2);
    }

    private static void fronts() {
        Connectory x = withStops(5, 0);
        Check.due("12: without any", x.front(0, 4, 0), 0);
        shuttle(x, 0, 100, 4, 100);
        Check.due("12: one ride", x.front(0, 4, 0), 2);
        shuttle(x, 0, 90, 1, 10);
        shuttle(x, 1, 100, 2, 10);
        shuttle(x, 2, 110, 3, 10);
        shuttle(x, 3, 120, 4, 10);
        Check.due("12: four rides", x.front(0, 4, 0), 2 + 16);
        int equal = shuttle(x, 2, 110, 4, 20);
        Check.due("12: three, and four the same", x.front(0, 4, 0), 2 + 8);
        x.delay(equal, 0, 1);
        Check.due("12: less by a minute", x.front(0, 4, 0), 2 + 8 + 16);
        x.delay(0, 0, NONE);
        x.delay(0, 1, NONE);
        Check.due("12: none by one", x.front(0, 4, 0), 8 + 16);
        wrongWays("12", (from, to, time, rides) -> x.front(from, to, time), x, 0);
    }

    private static void rides() {
        Connectory x = withStops(5, 5);
        shuttle(x, 0, 100, 1, 20);
        shuttle(x, 1, 124, 2, 20);
        int[] first = {0, 3, 0, 1, 4420, 4440};
        int[] second = {1, 4, 1, 2, 5884, 5904};
        for (int what = 0; what < 6; what++) {
            Check.due("13: first ride", x.ride(0, 2, 4400, 2, 0, what), first[what]);
            Check.due("13: second ride", x.ride(0, 2, 4400, 2, 1, what), second[what]);
            Check.due("13: no third ride", x.ride(0, 2, 4400, 2, 2, what), NONE);
            Check.due("13: no journey", x.ride(0, 2, 4400, 1, 0, what), NONE);
        }
        Check.due("13: far beyond", x.ride(0, 2, 4400, 2, Integer.MAX_VALUE, 0), NONE);
        Check.argument("13: ride below", () -> x.ride(0, 2, 4400, 2, -1, 0));
        Check.argument("13: what below", () -> x.ride(0, 2, 4400, 2, 0, -1));
        Check.argument("13: what above", () -> x.ride(0, 2, 4400, 2, 0, 6));
        Check.argument("13: without a journey too", () -> x.ride(2, 0, 4400, 2, -1, 0));
        wrongWays("13", (from, to, time, rides) -> x.ride(from, to, time, rides, 0, 0), x, 4);
        wrongWays("13", (from, to, time, rides) -> x.ride(from, to, time, rides, -1, 6), x, 4);
    }

    private static void ridesByTheRule() {
        lowestTrip();
        earliestDay();
        firstPlace();
        goalItself();
        lowestStopBehind();
        waysBetween();
    }

    private static void lowestTrip() {
        Connectory x = withStops(3, 5);
        int away = shuttle(x, 0, 50, 1, 60);
        int low = shuttle(x, 0, 40, 1, 60);
        int high = shuttle(x, 0, 60, 1, 40);
        Check.due("13: the lowest trip", x.ride(0, 1, 0, 1, 0, 0), low);
        Check.due("13: of those in time", x.ride(0, 1, 41, 1, 0, 0), high);
        Check.due("13: of the earliest", x.ride(0, 1, 1441, 1, 0, 0), low);
        x.delay(low, 0, NONE);
        Check.due("13: not cancelled", x.ride(0, 1, 0, 1, 0, 0), high);
        x.delay(high, 0, 11);
        Check.due("13: the earliest alone", x.ride(0, 1, 0, 1, 0, 0), away);
    }

    private static void earliestDay() {
        Connectory x = withStops(3, 5);
        x.footway(0, 2, 10);
        x.trip(0, 0, 5, 127, 0, 0);
        x.calls(0, 1, 300, 0);
        x.calls(0, 2, 300, 60);
        x.calls(0, 2, 300, 60);
        x.calls(0, 2, 300, 60);
        x.calls(0, 1, 300, 0);
        x.delay(0, 0, 60);
        Check.due("13: both days", x.arrival(2, 1, 700, 1), 1740);
        Check.due("13: the earliest day", x.ride(2, 1, 700, 1, 0, 1), 0);
        Check.due("13: of that the first place", x.ride(2, 1, 700, 1, 0, 4), 720);
        Check.due("13: of that the first place in time", x.ride(2, 1, 721, 1, 0, 4), 1080);
        x.delay(0, 0, 61);
        Check.due("13: the day behind", x.ride(2, 1, 700, 1, 0, 1), 1);
        Check.due("13: boards on foot", x.ride(2, 1, 700, 1, 0, 2), 0);
        Check.due("13: leaves at the first", x.ride(2, 1, 700, 1, 0, 3), 1);
    }

    private static void firstPlace() {
        Connectory x = withStops(4, 5);
        x.footway(0, 1, 10);
        x.trip(0, 0, 5, 127, 1, 100);
        x.calls(0, 0, 20, 0);
        x.calls(0, 2, 20, 0);
        x.calls(0, 0, 20, 0);
        x.calls(0, 3, 20, 0);
        Check.due("13: boards at the first stop, on foot", x.ride(0, 3, 90, 1, 0, 2), 1);
        Check.due("13: at the first stop in time", x.ride(0, 3, 91, 1, 0, 4), 120);
        Check.due("13: at the last stop in time", x.ride(0, 3, 121, 1, 0, 4), 160);
        Check.due("13: leaves at a stop twice passed", x.ride(1, 0, 0, 1, 0, 5), 120);
        Check.due("13: leaves at it later", x.ride(2, 0, 0, 1, 0, 5), 160);
    }

    private static void goalItself() {
        Connectory x = withStops(4, 5);
        x.footway(1, 2, 10);
        x.footway(3, 2, 10);
        int direct = shuttle(x, 0, 60, 2, 60);
        int near = shuttle(x, 0, 60, 1, 50);
        Check.due("13: the goal itself", x.ride(0, 2, 0, 1, 0, 0), direct);
        x.delay(near, 0, 1);
        Check.due("13: the goal itself, earlier", x.ride(0, 2, 0, 1, 0, 0), direct);
        x.delay(direct, 0, 2);
        Check.due("13: on foot, earlier", x.ride(0, 2, 0, 1, 0, 0), near);
        int nearer = shuttle(x, 0, 60, 3, 51);
        Check.due("13: on foot both", x.ride(0, 2, 0, 1, 0, 3), 1);
        x.delay(near, 0, 3);
        Check.due("13: on foot from there", x.ride(0, 2, 0, 1, 0, 0), nearer);
    }

    private static void lowestStopBehind() {
        Connectory x = withStops(4, 5);
        x.footway(1, 2, 10);
        x.footway(3, 2, 20);
        int higher = shuttle(x, 0, 60, 3, 40);
        int lower = shuttle(x, 0, 60, 1, 50);
        Check.due("13: the lowest stop", x.ride(0, 2, 0, 1, 0, 0), lower);
        x.footway(3, 2, 19);
        Check.due("13: the earliest", x.ride(0, 2, 0, 1, 0, 0), higher);
    }

    private static void waysBetween() {
        Connectory x = withStops(5, 10);
        x.footway(0, 1, 4);
        x.footway(1, 2, 3);
        x.footway(3, 2, 3);
        int toBoarding = shuttle(x, 0, 100, 2, 10);
        int toLower = shuttle(x, 0, 99, 1, 8);
        int toHigher = shuttle(x, 0, 90, 3, 10);
        int onward = shuttle(x, 2, 120, 4, 10);
        Check.due("13: by the transfer alone", x.ride(0, 4, 80, 2, 0, 0), toBoarding);
        x.delay(toBoarding, 0, 1);
        Check.due("13: by the lowest stop on foot", x.ride(0, 4, 80, 2, 0, 0), toLower);
        x.delay(toLower, 0, 11);
        Check.due("13: by the next on foot", x.ride(0, 4, 80, 2, 0, 0), toHigher);
        x.delay(toLower, 0, 10);
        Check.due("13: by the lowest in time again", x.ride(0, 4, 80, 2, 0, 0), toLower);
        Check.due("13: the same rides on", x.ride(0, 4, 80, 2, 1, 0), onward);
        x.note(toLower, 0);
        x.note(toLower, 1);
        Check.due("14: no minutes are spare", x.journey(0, 4, 80, 2, 0), 0.5);
    }

    private static void journeys() {
        Connectory x = withStops(5, 5);
        for (int mode = 0; mode < 3; mode++) {
            x.trip(mode, 0, 5, 127, mode, 100 * mode);
            x.calls(mode, 4, 10, 0);
            x.calls(mode, mode + 1, 10, 0);
        }
        Check.due("14: chance of one ride", x.journey(0, 1, 0, 1, 0), 1.0);
        Check.due("14: train", x.journey(0, 1, 0, 1, 1), 28.0);
        Check.due("14: bus", x.journey(1, 2, 0, 1, 1), 60.0);
        Check.due("14: boat", x.journey(2, 3, 0, 1, 1), 240.0);
        Check.due("14: all", x.journey(0, 3, 0, 3, 1), 328.0);
        Check.due("14: from the second stop on", x.journey(4, 3, 0, 1, 1), 120.0);
        Check.due("14: score", x.journey(0, 3, 0, 3, 2), 220.0 + 45.0 + 32.8);
        Check.due("14: score of one", x.journey(2, 3, 190, 1, 2), 30.0 + 15.0 + 24.0);
        x.footway(3, 0, 8);
        Check.due("14: score with the footway behind", x.journey(2, 0, 190, 1, 2), 38.0 + 15.0 + 24.0);
        Check.due("14: chance without notes", x.journey(0, 3, 0, 3, 0), 1.0);
        int[] first = {75, 76, 0};
        int[] second = {75, 600, 75, 1, 2, 3, 76};
        for (int minutes : first) {
            x.note(0, minutes);
        }
        for (int minutes : second) {
            x.note(1, minutes);
        }
        x.note(2, 600);
        Check.due("14: chances in order", x.journey(0, 3, 0, 3, 0), 1.0 * (2.0 / 3.0) * (5.0 / 7.0));
        Check.due("14: the last one does not count", x.journey(2, 3, 0, 1, 0), 1.0);
        Check.due("14: no journey", x.journey(3, 2, 2000, 1, 0), -1.0);
        Check.due("14: no score", x.journey(0, 2, 0, 1, 2), -1.0);
        Check.argument("14: what below", () -> x.journey(0, 3, 0, 3, -1));
        Check.argument("14: what above", () -> x.journey(0, 3, 0, 3, 4));
        wrongWays("14", (from, to, time, rides) -> x.journey(from, to, time, rides, 0), x, 4);
        wrongWays("14", (from, to, time, rides) -> x.journey(from, to, time, rides, 4), x, 4);
    }

    private static void fares() {
        Connectory x = withStops(5, 0);
        for (int i = 0; i < 4; i++) {
            x.trip(0, i == 2 ? 1 : 0, 5, 127, i, 100 * i);
            x.calls(i, i, 10, 0);
            x.calls(i, i + 1, 10, 0);
        }
        x.prices(0, 100, 10, 1000);
        x.prices(1, 7, 1, 2000);
        Check.due("14: fare of one ride", x.journey(0, 1, 0, 1, 3), 120.0);
        Check.due("14: cheaper if split", x.journey(0, 2, 0, 2, 3), 240.0);
        Check.due("14: with another firm", x.journey(0, 3, 0, 3, 3), 249.0);
        Check.due("14: behind another firm anew", x.journey(0, 4, 0, 4, 3), 369.0);
        x.prices(0, 100, 10, 99);
        Check.due("14: cheaper together", x.journey(0, 2, 0, 2, 3), 239.0);
        Check.due("14: not around another firm", x.journey(0, 4, 0, 4, 3), 239.0 + 9.0 + 120.0);
        Connectory y = withStops(5, 0);
        for (int i = 0; i < 4; i++) {
            shuttle(y, i, 100 * i, i + 1, 10);
        }
        y.prices(0, 100, 10, 101);
        Check.due("14: three stops bear no surcharge", y.journey(0, 3, 0, 3, 3), 130.0);
        Check.due("14: four are split", y.journey(0, 4, 0, 4, 3), 240.0);
        y.prices(0, 100, 10, 99);
        Check.due("14: four are together", y.journey(0, 4, 0, 4, 3), 239.0);
        y.calls(0, 2, 10, 0);
        y.calls(0, 3, 10, 0);
        y.calls(0, 4, 10, 0);
        Check.due("14: one ride is not split", y.journey(0, 4, 0, 1, 3), 239.0);
        Check.due("14: its stops alone", y.journey(1, 4, 0, 1, 3), 130.0);
    }

    private static void bests() {
        Connectory x = withStops(5, 0);
        Check.due("15: without any", x.best(0, 2, 0), NONE);
        shuttle(x, 0, 100, 1, 10);
        shuttle(x, 1, 110, 2, 10);
        Check.due("15: by two", x.best(0, 2, 0), 2);
        int direct = shuttle(x, 0, 100, 2, 36);
        Check.due("15: the least", x.best(0, 2, 0), 1);
        x.delay(direct, 0, 1);
        Check.due("15: less by two", x.best(0, 2, 0), 2);
        int boat = x.trip(2, 0, 5, 127, 0, 100);
        x.calls(boat, 2, 10, 0);
        Check.due("15: carbon counts", x.journey(0, 2, 0, 1, 2), 137.0);
        Check.due("15: the score, not the time", x.best(0, 2, 0), 1);
        Connectory y = withStops(5, 0);
        y.trip(1, 0, 5, 127, 0, 100);
        y.calls(0, 2, 40, 0);
        y.trip(1, 0, 5, 127, 0, 100);
        y.calls(1, 1, 10, 0);
        y.trip(1, 0, 5, 127, 1, 110);
        y.calls(2, 2, 12, 0);
        Check.due("15: the same score", y.journey(0, 2, 0, 1, 2), y.journey(0, 2, 0, 2, 2));
        Check.due("15: the fewest", y.best(0, 2, 0), 1);
        Connectory z = withStops(5, 0);
        for (int i = 0; i < 4; i++) {
            shuttle(z, i, 100 + 10 * i, i + 1, 10);
        }
        Check.due("15: by four", z.best(0, 4, 0), 4);
        Check.due("10: by four", z.arrival(0, 4, 0, 4), 140);
        z.delay(2, 0, 1);
        Check.due("10: by four, the last one missed", z.arrival(0, 4, 0, 4), 1440 + 140);
        wrongWays("15", (from, to, time, rides) -> x.best(from, to, time), x, 0);
    }

    private static void books() {
        Connectory x = withStops(5, 0);
        x.prices(0, 10, 1, 0);
        x.trip(0, 0, 2, 127, 0, 100);
        x.calls(0, 1, 10, 0);
        x.calls(0, 2, 10, 0);
        shuttle(x, 0, 90, 1, 5);
        Check.due("16: the first", x.book(0, 2, 95, 1), 0);
        Check.due("16: held", x.ofBooking(0, 0), Connectory.HELD);
        Check.due("16: a run ridden twice", x.book(0, 2, 95, 2), 1);
        Check.due("16: has one seat less", x.seats(0, 0), 0);
        Check.state("16: no seat", () -> x.book(0, 2, 95, 1));
        Check.state("16: no seat in the second ride", () -> x.book(0, 2, 85, 2));
        Check.due("16: for all rides or none", x.seats(1, 0), 100);
        Check.due("16: another day", x.book(0, 2, 1500, 1), 2);
        Check.state("16: no journey", () -> x.book(2, 0, 0, 1));
        Check.due("16: full runs are told all the same", x.arrival(0, 2, 95, 1), 120);
        wrongWays("16", (from, to, time, rides) -> x.book(from, to, time, rides), x, 4);
        for (int i = 3; i < 30; i++) {
            Check.due("16: number", x.book(0, 1, 80, 1), i);
        }
        Check.state("16: there were 30", () -> x.book(0, 1, 80, 1));
        x.pass(31);
        Check.due("16: dropped", x.seats(1, 0), 100);
        Check.state("16: there were 30 ever", () -> x.book(0, 1, 80, 1));
        Check.argument("16: the argument comes first", () -> x.book(0, 1, 80, 5));
        Check.index("16: the index comes first", () -> x.book(0, 5, 80, 5));
        Check.due("16: all are concerned no more", x.concerned(1, 0), 0);
    }

    private static Connectory withTrain(int fare) {
        Connectory x = withStops(5, 5);
        shuttle(x, 0, 100, 1, 10);
        shuttle(x, 1, 120, 2, 10);
        x.prices(0, fare, 0, 0);
        return x;
    }

    private static void buys() {
        Connectory x = withTrain(75);
        x.book(0, 2, 0, 2);
        x.prices(0, 5, 5, 5);
        x.book(0, 1, 0, 1);
        x.pass(30);
        Check.due("17: its fare then, 30 minutes later", x.buy(0), 75);
        Check.due("17: bought", x.ofBooking(0, 0), Connectory.BOUGHT);
        Check.state("17: bought already", () -> x.buy(0));
        x.pass(1);
        Check.state("17: dropped", () -> x.buy(1));
        Check.due("17: the bought one stays", x.ofBooking(0, 0), Connectory.BOUGHT);
        x.delay(0, 0, NONE);
        x.claim(0);
        Check.state("17: claimed", () -> x.buy(0));
        Check.index("17: no such booking", () -> x.buy(2));
        Check.index("17: below", () -> x.buy(-1));
    }

    private static void rights() {
        Connectory x = withTrain(103);
        x.book(0, 2, 40, 2);
        x.delay(0, 0, NONE);
        Check.due("18: held", x.right(0), 0);
        x.buy(0);
        Check.due("18: cancelled", x.right(0), 103);
        x.delay(0, 0, 0);
        Check.due("18: no more", x.right(0), 0);
        x.runs(1, 0, false);
        Check.due("18: not there", x.right(0), 103);
        x.runs(1, 0, true);
        x.delay(1, 0, 59);
        Check.due("18: not so late", x.right(0), 0);
        x.delay(1, 0, 60);
        Check.due("18: a fourth", x.right(0), 25);
        x.delay(1, 0, 119);
        Check.due("18: a fourth still", x.right(0), 25);
        x.delay(1, 0, 120);
        Check.due("18: half", x.right(0), 51);
        x.delay(0, 0, 125);
        Check.due("18: in time", x.right(0), 51);
        x.delay(0, 0, 126);
        Check.due("18: missed", x.right(0), 103);
        Check.index("18: no such booking", () -> x.right(1));
        Check.index("18: below", () -> x.right(-1));
        rightsOnFoot();
        rightsOfEarlyRuns();
    }

    private static void rightsOnFoot() {
        Connectory x = withStops(5, 5);
        x.footway(0, 1, 10);
        x.footway(2, 3, 20);
        x.footway(3, 4, 30);
        int first = shuttle(x, 1, 100, 2, 10);
        int second = shuttle(x, 3, 130, 3, 10);
        x.prices(0, 40, 0, 0);
        x.book(0, 4, 90, 2);
        Check.due("18: told", x.ofBooking(0, 3), 170);
        x.buy(0);
        x.footway(0, 1, 11);
        x.footway(2, 3, 21);
        x.footway(3, 4, NONE);
        Check.due("18: minutes as they were", x.right(0), 0);
        x.delay(second, 0, 60);
        Check.due("18: with the footway behind", x.right(0), 10);
        x.delay(first, 0, 60);
        Check.due("18: with the footway between", x.right(0), 10);
        x.delay(first, 0, 61);
        Check.due("18: too late by the footway between", x.right(0), 40);
    }

    private static void rightsOfEarlyRuns() {
        Connectory x = withStops(3, 5);
        x.footway(0, 1, 10);
        int trip = shuttle(x, 1, 100, 2, 10);
        x.delay(trip, 0, 30);
        x.prices(0, 40, 0, 0);
        x.book(0, 2, 110, 1);
        x.buy(0);
        x.book(1, 2, 110, 1);
        x.buy(1);
        x.delay(trip, 0, 20);
        Check.due("18: just in time", x.right(0), 0);
        x.delay(trip, 0, 19);
        Check.due("18: ahead of when one is ready on foot", x.right(0), 40);
        x.delay(trip, 0, 10);
        Check.due("18: just at the time", x.right(1), 0);
        x.delay(trip, 0, 9);
        Check.due("18: ahead of the time", x.right(1), 40);
    }

    private static void claims() {
        Connectory x = withTrain(103);
        x.book(0, 2, 40, 2);
        Check.state("19: held", () -> x.claim(0));
        x.buy(0);
        Check.state("19: nothing", () -> x.claim(0));
        Check.due("19: bought still", x.ofBooking(0, 0), Connectory.BOUGHT);
        x.delay(1, 0, 120);
        Check.due("19: half", x.claim(0), 51);
        Check.due("19: claimed", x.ofBooking(0, 0), Connectory.CLAIMED);
        Check.due("19: once", x.right(0), 0);
        Check.state("19: claimed once", () -> x.claim(0));
        Check.due("19: the seat stays", x.seats(0, 0), 99);
        Check.index("19: no such booking", () -> x.claim(1));
        Check.index("19: below", () -> x.claim(-1));
        Connectory y = withTrain(1);
        y.book(0, 2, 40, 2);
        y.buy(0);
        y.delay(1, 0, 120);
        Check.state("19: rounded down to nothing", () -> y.claim(0));
    }

    private static void concerned() {
        Connectory x = withTrain(10);
        x.book(0, 1, 0, 1);
        x.book(0, 2, 0, 2);
        x.book(0, 2, 1440, 2);
        x.book(1, 2, 0, 1);
        Check.due("20: by the first", x.concerned(0, 0), 1 + 2);
        Check.due("20: by the second", x.concerned(1, 0), 2 + 8);
        Check.due("20: of another day", x.concerned(0, 1), 4);
        Check.due("20: of the last day", x.concerned(0, 99), 0);
        Check.due("20: none", x.concerned(0, 2), 0);
        x.buy(1);
        x.buy(3);
        x.pass(31);
        Check.due("20: not the dropped one", x.concerned(0, 0), 2);
        Check.due("20: the bought ones", x.concerned(1, 0), 2 + 8);
        x.runs(1, 0, false);
        Check.due("20: by a run that is not there", x.concerned(1, 0), 2 + 8);
        x.claim(3);
        Check.due("20: not the claimed one", x.concerned(1, 0), 2);
        Check.argument("20: day below", () -> x.concerned(0, -1));
        Check.argument("20: day above", () -> x.concerned(0, 100));
        Check.index("20: no such trip", () -> x.concerned(2, 0));
        Check.index("20: the trip comes first", () -> x.concerned(-1, 100));
    }

    private static void seats() {
        Connectory x = withStops(2, 5);
        x.trip(0, 0, 3, 1, 0, 100);
        x.calls(0, 1, 10, 0);
        x.prices(0, 10, 0, 0);
        Check.due("21: all", x.seats(0, 0), 3);
        Check.due("21: whether or not it runs", x.seats(0, 1), 3);
        x.book(0, 1, 0, 1);
        x.book(0, 1, 0, 1);
        Check.due("21: two less", x.seats(0, 0), 1);
        x.buy(0);
        x.pass(31);
        Check.due("21: one is free again", x.seats(0, 0), 2);
        x.runs(0, 0, false);
        Check.due("21: though it does not run", x.seats(0, 0), 2);
        x.claim(0);
        Check.due("21: claimed", x.seats(0, 0), 2);
        Check.due("21: another day", x.seats(0, 99), 3);
        Check.argument("21: day below", () -> x.seats(0, -1));
        Check.argument("21: day above", () -> x.seats(0, 100));
        Check.index("21: no such trip", () -> x.seats(1, 0));
        Check.index("21: the trip comes first", () -> x.seats(-1, -1));
    }

    private static void passes() {
        Connectory x = withTrain(10);
        x.book(0, 1, 0, 1);
        Check.due("22: a minute", x.pass(1), 0);
        x.book(0, 1, 0, 1);
        x.book(0, 1, 0, 1);
        Check.due("22: 30 minutes later", x.pass(29), 0);
        Check.due("22: a minute behind that", x.pass(1), 1);
        Check.due("22: dropped", x.ofBooking(0, 0), Connectory.DROPPED);
        Check.due("22: held", x.ofBooking(1, 0), Connectory.HELD);
        x.buy(1);
        Check.due("22: one is bought", x.pass(1440), 1);
        Check.due("22: none again", x.pass(1440), 0);
        Check.argument("22: none", () -> x.pass(0));
        Check.argument("22: below", () -> x.pass(-5));
        Check.argument("22: above", () -> x.pass(1441));
    }

    private static void ofBookings() {
        Connectory x = withTrain(60);
        x.footway(2, 3, 7);
        x.book(0, 3, 0, 2);
        int[] due = {0, 60, 2, 137};
        for (int what = 0; what < 4; what++) {
            Check.due("23: what " + what, x.ofBooking(0, what), due[what]);
        }
        x.delay(1, 0, 100);
        x.prices(0, 1, 1, 1);
        Check.due("23: as it was told", x.ofBooking(0, 3), 137);
        Check.due("23: the fare then", x.ofBooking(0, 1), 60);
        Check.argument("23: what below", () -> x.ofBooking(0, -1));
        Check.argument("23: what above", () -> x.ofBooking(0, 4));
        Check.index("23: no such booking", () -> x.ofBooking(1, 0));
        Check.index("23: the booking comes first", () -> x.ofBooking(-1, 4));
    }
}
