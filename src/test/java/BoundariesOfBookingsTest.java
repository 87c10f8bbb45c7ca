/** The boundaries of promises 16 to 23, each by a test of its own. */
final class BoundariesOfBookingsTest {
    private static final int NONE = Connectory.NONE;
    private static final int LAST = 140000;

    private BoundariesOfBookingsTest() {
    }

    public static void main(String[] args) {
        Check.all(BoundariesOfBookingsTest.class);
    }

    /** Two lines with a fare of so much for both, booked from stop 0 to stop 2 at the minute 50, and bought. */
    private static Connectory bought(int fare) {
        Connectory x = Worlds.stops(3, 5);
        Worlds.line(x, 0, 100, 1, 10);
        Worlds.line(x, 1, 120, 2, 10);
        x.prices(0, fare, 0, 0);
        x.book(0, 2, 50, 2);
        x.buy(0);
        return x;
    }

    // ---- promise 16: book.

    private static void promise16FirstAndLastStop() {
        Connectory x = Worlds.stops(10, 5);
        Worlds.line(x, 0, 100, 9, 10);
        Worlds.line(x, 9, 100, 0, 10);
        Check.due("from the first to the last", x.book(0, 9, 0, 1), 0);
        Check.due("and back", x.book(9, 0, 0, 1), 1);
        Check.index("from -1", () -> x.book(-1, 9, 0, 1));
        Check.index("from 10", () -> x.book(10, 9, 0, 1));
        Check.index("to -1", () -> x.book(0, -1, 0, 1));
        Check.index("to 10", () -> x.book(0, 10, 0, 1));
        Check.argument("both are one", () -> x.book(9, 9, 0, 1));
        Check.index("both are one that is not there", () -> x.book(10, 10, 0, 1));
        Check.index("no stop is thrown ahead of a time out of range", () -> x.book(0, 10, -1, 1));
        Check.index("and of rides out of range", () -> x.book(-1, 9, 0, 5));
        Check.due("none is made by that", x.book(0, 9, 0, 1), 2);
    }

    private static void promise16FirstAndLastTime() {
        Connectory x = Worlds.chain(1);
        Check.due("0", x.book(0, 1, 0, 1), 0);
        Check.due("140000", x.book(0, 1, LAST, 1), 1);
        Check.due("of the day 98", x.seats(0, 98), 99);
        Check.due("told", x.ofBooking(1, 3), 98 * 1440 + 110);
        Check.argument("-1", () -> x.book(0, 1, -1, 1));
        Check.argument("140001", () -> x.book(0, 1, LAST + 1, 1));
        Check.due("none is made by that", x.book(0, 1, 0, 1), 2);
    }

    private static void promise16FewestAndMostRides() {
        Connectory x = Worlds.chain(4);
        Check.due("1", x.book(0, 1, 0, 1), 0);
        Check.due("4", x.book(0, 4, 0, 4), 1);
        Check.argument("0", () -> x.book(0, 1, 0, 0));
        Check.argument("5", () -> x.book(0, 1, 0, 5));
        Check.due("none is made by that", x.book(0, 1, 0, 1), 2);
    }

    private static void promise16NoJourney() {
        Connectory x = Worlds.chain(2);
        Check.state("by one ride", () -> x.book(0, 2, 0, 1));
        Check.state("by four", () -> x.book(0, 2, 0, 4));
        Check.state("back", () -> x.book(2, 0, 0, 1));
        Check.argument("out of range is thrown ahead of it", () -> x.book(2, 0, -1, 1));
        Check.argument("rides too", () -> x.book(2, 0, 0, 5));
        Check.argument("both are one too", () -> x.book(2, 2, 0, 1));
        Check.index("no stop is thrown ahead of it", () -> x.book(2, 3, 0, 1));
        Check.index("there is none", () -> x.ofBooking(0, 0));
        Check.due("none is made by that", x.book(0, 2, 0, 2), 0);
    }

    private static void promise16TheLastSeat() {
        Connectory x = Worlds.stops(2, 0);
        x.trip(0, 0, 1, 127, 0, 100);
        x.calls(0, 1, 10, 0);
        Check.due("the last one", x.book(0, 1, 0, 1), 0);
        Check.due("none is free", x.seats(0, 0), 0);
        Check.state("refused", () -> x.book(0, 1, 0, 1));
        Check.argument("out of range is thrown ahead of it", () -> x.book(0, 1, 0, 5));
        Check.index("no stop is thrown ahead of it", () -> x.book(0, 2, 0, 1));
        Check.due("none is below 0", x.seats(0, 0), 0);
        Check.due("told all the same", x.arrival(0, 1, 0, 1), 110);
        Check.due("another day has its own", x.book(0, 1, 1440, 1), 1);
    }

    private static void promise16TheLastSeatOfSeveral() {
        Connectory x = Worlds.stops(2, 0);
        x.trip(0, 0, 29, 127, 0, 100);
        x.calls(0, 1, 10, 0);
        for (int i = 0; i < 29; i++) {
            Check.due("number", x.book(0, 1, 0, 1), i);
        }
        Check.state("the thirtieth has no seat", () -> x.book(0, 1, 0, 1));
        Check.due("but one of another day", x.book(0, 1, 1440, 1), 29);
    }

    private static void promise16ASeatThatIsFreeAgain() {
        Connectory x = Worlds.stops(2, 0);
        x.trip(0, 0, 1, 127, 0, 100);
        x.calls(0, 1, 10, 0);
        x.book(0, 1, 0, 1);
        x.pass(30);
        Check.state("held still", () -> x.book(0, 1, 0, 1));
        x.pass(1);
        Check.due("dropped", x.book(0, 1, 0, 1), 1);
        x.buy(1);
        x.pass(1440);
        Check.state("bought", () -> x.book(0, 1, 0, 1));
    }

    private static void promise16TheLastSeatRiddenTwice() {
        Connectory x = Worlds.stops(3, 0);
        x.trip(0, 0, 1, 127, 0, 100);
        x.calls(0, 1, 10, 0);
        x.calls(0, 2, 10, 0);
        Check.due("one seat is enough", x.book(0, 2, 0, 2), 0);
        Check.due("both rides are of it", x.ofBooking(0, 2), 2);
        Check.due("just one is less", x.seats(0, 0), 0);
        x.pass(31);
        Check.due("just one is free again", x.seats(0, 0), 1);
    }

    private static void promise16ForAllLegsOrNone() {
        Connectory x = Worlds.stops(3, 0);
        int[] seats = {2, 1};
        for (int i = 0; i < 2; i++) {
            x.trip(0, 0, seats[i], 127, i, 100 + 10 * i);
            x.calls(i, i + 1, 10, 0);
        }
        x.book(0, 2, 0, 2);
        Check.state("no seat in the last", () -> x.book(0, 2, 0, 2));
        Check.due("the first one's stay", x.seats(0, 0), 1);
        x.book(0, 1, 0, 1);
        x.pass(31);
        x.book(0, 1, 0, 1);
        x.book(0, 1, 0, 1);
        Check.state("no seat in the first", () -> x.book(0, 2, 0, 2));
        Check.due("the last one's stay", x.seats(1, 0), 1);
    }

    private static void promise16TheThirtiethBooking() {
        Connectory x = Worlds.chain(2);
        for (int i = 0; i < 29; i++) {
            Check.due("number", x.book(0, 1, 0, 1), i);
        }
        Check.index("not there yet", () -> x.ofBooking(29, 0));
        Check.due("the thirtieth", x.book(0, 2, 0, 2), 29);
        Check.due("held", x.ofBooking(29, 0), Connectory.HELD);
        Check.due("seats", x.seats(0, 0), 70);
        Check.due("concerned", x.concerned(0, 0), (1 << 30) - 1);
        Check.due("the thirtieth alone", x.concerned(1, 0), 1 << 29);
    }

    private static void promise16TheThirtyFirstBooking() {
        Connectory x = Worlds.chain(2);
        for (int i = 0; i < 30; i++) {
            x.book(0, 1, 0, 1);
        }
        Check.state("refused", () -> x.book(0, 1, 0, 1));
        Check.state("of other runs too", () -> x.book(1, 2, 1440, 1));
        Check.index("it is not there", () -> x.ofBooking(30, 0));
        Check.due("seats as before", x.seats(0, 0), 70);
        Check.due("all of them dropped", x.pass(31), 30);
        Check.state("there were 30 all the same", () -> x.book(0, 1, 0, 1));
        Check.argument("out of range is thrown ahead of it", () -> x.book(0, 1, LAST + 1, 1));
        Check.index("no stop is thrown ahead of it", () -> x.book(0, 3, 0, 1));
    }

    private static void promise16FareAndEndAsTold() {
        Connectory x = Worlds.chain(1);
        x.prices(0, 100, 0, 0);
        x.delay(0, 0, 30);
        x.book(0, 1, 0, 1);
        x.delay(0, 0, 0);
        x.prices(0, 5, 0, 0);
        Check.due("fare", x.ofBooking(0, 1), 100);
        Check.due("end", x.ofBooking(0, 3), 140);
    }

    // ---- promise 17: buy.

    private static void promise17ThirtyMinutesLater() {
        Connectory x = Worlds.chain(1);
        x.prices(0, 9, 0, 0);
        x.book(0, 1, 0, 1);
        x.pass(30);
        Check.due("held still", x.buy(0), 9);
        Check.due("bought", x.ofBooking(0, 0), Connectory.BOUGHT);
    }

    private static void promise17ThirtyOneMinutesLater() {
        Connectory x = Worlds.chain(1);
        x.book(0, 1, 0, 1);
        x.pass(31);
        Check.state("dropped", () -> x.buy(0));
        Check.due("dropped still", x.ofBooking(0, 0), Connectory.DROPPED);
    }

    private static void promise17OnceOnly() {
        Connectory x = Worlds.chain(1);
        x.prices(0, 9, 0, 0);
        x.book(0, 1, 0, 1);
        x.buy(0);
        Check.state("bought", () -> x.buy(0));
        x.pass(1440);
        Check.state("bought much later", () -> x.buy(0));
        x.delay(0, 0, NONE);
        x.claim(0);
        Check.state("claimed", () -> x.buy(0));
        Check.due("claimed still", x.ofBooking(0, 0), Connectory.CLAIMED);
    }

    private static void promise17FirstAndLastBooking() {
        Connectory x = Worlds.chain(1);
        Check.index("none at all", () -> x.buy(0));
        for (int i = 0; i < 30; i++) {
            x.book(0, 1, 0, 1);
        }
        Check.due("the first", x.buy(0), 0);
        Check.due("the last", x.buy(29), 0);
        Check.index("-1", () -> x.buy(-1));
        Check.index("30", () -> x.buy(30));
        Check.index("the least number", () -> x.buy(Integer.MIN_VALUE));
        Check.index("the largest number", () -> x.buy(Integer.MAX_VALUE));
        Check.due("the others are held", x.pass(31), 28);
    }

    private static void promise17OfARunThatIsCancelled() {
        Connectory x = Worlds.chain(1);
        x.prices(0, 9, 0, 0);
        x.book(0, 1, 0, 1);
        x.delay(0, 0, NONE);
        Check.due("bought all the same", x.buy(0), 9);
        Check.due("with its right at once", x.right(0), 9);
    }

    // ---- promise 18: right.

    private static void promise18AnHour() {
        Connectory x = bought(100);
        x.delay(1, 0, 59);
        Check.due("59 minutes", x.right(0), 0);
        x.delay(1, 0, 60);
        Check.due("60 minutes", x.right(0), 25);
    }

    private static void promise18TwoHours() {
        Connectory x = bought(100);
        x.delay(1, 0, 119);
        Check.due("119 minutes", x.right(0), 25);
        x.delay(1, 0, 120);
        Check.due("120 minutes", x.right(0), 50);
        x.delay(1, 0, 600);
        Check.due("600 minutes", x.right(0), 50);
    }

    private static void promise18RoundedDown() {
        for (int fare = 0; fare < 9; fare++) {
            Connectory x = bought(fare);
            x.delay(1, 0, 60);
            Check.due("a fourth of " + fare, x.right(0), fare / 4);
            x.delay(1, 0, 120);
            Check.due("half of " + fare, x.right(0), fare / 2);
            x.delay(1, 0, NONE);
            Check.due("the whole of " + fare, x.right(0), fare);
        }
    }

    private static void promise18AMinuteTooLateForTheNextRide() {
        Connectory x = bought(100);
        x.delay(0, 0, 5);
        Check.due("just the transfer is left", x.right(0), 0);
        x.delay(0, 0, 6);
        Check.due("a minute less", x.right(0), 100);
        x.delay(1, 0, 1);
        Check.due("the next one waits", x.right(0), 0);
        x.delay(0, 0, 600);
        Check.due("missed by far", x.right(0), 100);
    }

    private static void promise18TheFirstRideAMinuteTooEarly() {
        Connectory x = Worlds.stops(3, 5);
        Worlds.line(x, 0, 100, 1, 10);
        x.footway(2, 0, 20);
        x.prices(0, 100, 0, 0);
        x.delay(0, 0, 30);
        x.book(0, 1, 120, 1);
        x.book(2, 1, 110, 1);
        x.buy(0);
        x.buy(1);
        x.delay(0, 0, 20);
        Check.due("at the time at which it begins", x.right(0), 0);
        x.delay(0, 0, 19);
        Check.due("a minute ahead of it", x.right(0), 100);
        x.delay(0, 0, 30);
        Check.due("when one is there on foot", x.right(1), 0);
        x.delay(0, 0, 29);
        Check.due("a minute ahead of that", x.right(1), 100);
    }

    private static void promise18NotThereOrCancelled() {
        Connectory x = bought(100);
        Check.due("nothing broke", x.right(0), 0);
        x.runs(0, 0, false);
        Check.due("the first is not there", x.right(0), 100);
        x.runs(0, 0, true);
        x.runs(1, 0, false);
        Check.due("the last is not there", x.right(0), 100);
        x.runs(1, 0, true);
        x.delay(0, 0, NONE);
        Check.due("the first is cancelled", x.right(0), 100);
        x.delay(0, 0, 0);
        x.delay(1, 0, NONE);
        Check.due("the last is cancelled", x.right(0), 100);
        x.delay(1, 0, 0);
        Check.due("as they are now", x.right(0), 0);
        x.runs(0, 1, false);
        x.delay(1, 1, NONE);
        Check.due("another day does not matter", x.right(0), 0);
    }

    private static void promise18WholeAheadOfHalf() {
        Connectory x = bought(100);
        x.delay(0, 0, 200);
        x.delay(1, 0, 190);
        Check.due("missed, and late", x.right(0), 100);
        x.delay(1, 0, 195);
        Check.due("late alone", x.right(0), 50);
    }

    private static void promise18LateAgainstWhatWasTold() {
        Connectory x = Worlds.chain(1);
        x.prices(0, 100, 0, 0);
        x.delay(0, 0, 100);
        x.book(0, 1, 0, 1);
        x.buy(0);
        Check.due("as late as it was told", x.right(0), 0);
        x.delay(0, 0, 159);
        Check.due("59 minutes later", x.right(0), 0);
        x.delay(0, 0, 160);
        Check.due("60 minutes later", x.right(0), 25);
        x.delay(0, 0, 220);
        Check.due("120 minutes later", x.right(0), 50);
        x.delay(0, 0, 0);
        Check.due("earlier", x.right(0), 0);
    }

    private static void promise18MinutesAsTheyWere() {
        Connectory x = Worlds.stops(6, 5);
        x.footway(0, 1, 10);
        x.footway(2, 3, 10);
        x.footway(4, 5, 10);
        Worlds.line(x, 1, 100, 2, 10);
        Worlds.line(x, 3, 120, 4, 10);
        x.prices(0, 100, 0, 0);
        x.book(0, 5, 90, 2);
        x.buy(0);
        for (int stop = 0; stop < 6; stop += 2) {
            x.footway(stop, stop + 1, 120);
        }
        Check.due("longer footways do not matter", x.right(0), 0);
        for (int stop = 0; stop < 6; stop += 2) {
            x.footway(stop, stop + 1, NONE);
        }
        Check.due("nor those that are gone", x.right(0), 0);
        for (int stop = 0; stop < 6; stop += 2) {
            x.footway(stop, stop + 1, 1);
        }
        x.delay(0, 0, 1);
        Check.due("nor shorter ones", x.right(0), 100);
        x.delay(1, 0, 60);
        Check.due("late by the goal", x.right(0), 25);
    }

    private static void promise18OfBoughtOnesAlone() {
        Connectory x = Worlds.chain(1);
        x.prices(0, 100, 0, 0);
        x.book(0, 1, 0, 1);
        x.book(0, 1, 0, 1);
        x.delay(0, 0, NONE);
        Check.due("held", x.right(0), 0);
        x.buy(0);
        Check.due("bought", x.right(0), 100);
        x.pass(31);
        Check.due("dropped", x.right(1), 0);
        x.claim(0);
        Check.due("claimed", x.right(0), 0);
    }

    private static void promise18FirstAndLastBooking() {
        Connectory x = Worlds.chain(1);
        Check.index("none at all", () -> x.right(0));
        x.prices(0, 7, 0, 0);
        for (int i = 0; i < 30; i++) {
            x.book(0, 1, 0, 1);
        }
        x.buy(0);
        x.buy(29);
        x.delay(0, 0, NONE);
        Check.due("the first", x.right(0), 7);
        Check.due("the last", x.right(29), 7);
        Check.due("one between, held", x.right(15), 0);
        Check.index("-1", () -> x.right(-1));
        Check.index("30", () -> x.right(30));
    }

    // ---- promise 19: claim.

    private static void promise19WhatIs0IsNoClaim() {
        Connectory x = bought(3);
        Check.state("nothing broke", () -> x.claim(0));
        x.delay(1, 0, 59);
        Check.state("59 minutes", () -> x.claim(0));
        x.delay(1, 0, 60);
        Check.state("a fourth of 3 is 0", () -> x.claim(0));
        Check.due("bought still", x.ofBooking(0, 0), Connectory.BOUGHT);
        x.delay(1, 0, 120);
        Check.due("half of 3 is 1", x.claim(0), 1);
    }

    private static void promise19WithoutAFare() {
        Connectory x = bought(0);
        x.delay(1, 0, NONE);
        Check.state("the whole is 0", () -> x.claim(0));
        Check.due("bought still", x.ofBooking(0, 0), Connectory.BOUGHT);
    }

    private static void promise19OnceOnly() {
        Connectory x = bought(100);
        x.delay(1, 0, 60);
        Check.due("a fourth", x.claim(0), 25);
        Check.due("claimed", x.ofBooking(0, 0), Connectory.CLAIMED);
        x.delay(1, 0, NONE);
        Check.state("no more, though it broke", () -> x.claim(0));
        Check.due("claimed still", x.ofBooking(0, 0), Connectory.CLAIMED);
        Check.due("its seat is kept", x.seats(1, 0), 99);
    }

    private static void promise19HeldOrDropped() {
        Connectory x = Worlds.chain(1);
        x.prices(0, 100, 0, 0);
        x.book(0, 1, 0, 1);
        x.delay(0, 0, NONE);
        Check.state("held", () -> x.claim(0));
        Check.due("held still", x.ofBooking(0, 0), Connectory.HELD);
        x.pass(31);
        Check.state("dropped", () -> x.claim(0));
        Check.due("dropped still", x.ofBooking(0, 0), Connectory.DROPPED);
    }

    private static void promise19FirstAndLastBooking() {
        Connectory x = Worlds.chain(1);
        Check.index("none at all", () -> x.claim(0));
        x.prices(0, 7, 0, 0);
        for (int i = 0; i < 30; i++) {
            x.book(0, 1, 0, 1);
            x.buy(i);
        }
        x.delay(0, 0, NONE);
        Check.due("the first", x.claim(0), 7);
        Check.due("the last", x.claim(29), 7);
        Check.index("-1", () -> x.claim(-1));
        Check.index("30", () -> x.claim(30));
        Check.due("the others are bought", x.concerned(0, 0), (1 << 29) - 2);
    }

    // ---- promise 20: concerned.

    private static void promise20FirstAndLastDay() {
        Connectory x = Worlds.chain(1);
        x.book(0, 1, 0, 1);
        x.book(0, 1, LAST, 1);
        Check.due("day 0", x.concerned(0, 0), 1);
        Check.due("day 1", x.concerned(0, 1), 0);
        Check.due("day 97", x.concerned(0, 97), 0);
        Check.due("day 98", x.concerned(0, 98), 2);
        Check.due("day 99", x.concerned(0, 99), 0);
        Check.argument("day -1", () -> x.concerned(0, -1));
        Check.argument("day 100", () -> x.concerned(0, 100));
        Check.argument("the least number", () -> x.concerned(0, Integer.MIN_VALUE));
        Check.argument("the largest number", () -> x.concerned(0, Integer.MAX_VALUE));
    }

    private static void promise20FirstAndLastTrip() {
        Connectory x = Worlds.stops(3, 5);
        for (int i = 0; i < 20; i++) {
            x.trip(0, 0, 1, 127, i == 19 ? 1 : 0, 100);
        }
        x.calls(0, 1, 10, 0);
        x.calls(19, 2, 10, 0);
        x.book(0, 1, 0, 1);
        x.book(1, 2, 0, 1);
        Check.due("the first", x.concerned(0, 0), 1);
        Check.due("the last", x.concerned(19, 0), 2);
        Check.due("one between", x.concerned(9, 0), 0);
        Check.index("-1", () -> x.concerned(-1, 0));
        Check.index("20", () -> x.concerned(20, 0));
        Check.index("no trip is thrown ahead of day 100", () -> x.concerned(20, 100));
        Check.index("and of day -1", () -> x.concerned(-1, -1));
    }

    private static void promise20HeldOrBought() {
        Connectory x = Worlds.chain(1);
        x.prices(0, 9, 0, 0);
        Check.due("none", x.concerned(0, 0), 0);
        for (int i = 0; i < 3; i++) {
            x.book(0, 1, 0, 1);
        }
        Check.due("held", x.concerned(0, 0), 7);
        x.buy(0);
        x.buy(1);
        Check.due("bought or held", x.concerned(0, 0), 7);
        x.pass(30);
        Check.due("held still", x.concerned(0, 0), 7);
        x.pass(1);
        Check.due("dropped", x.concerned(0, 0), 3);
        x.delay(0, 0, NONE);
        Check.due("cancelled", x.concerned(0, 0), 3);
        x.claim(1);
        Check.due("claimed", x.concerned(0, 0), 1);
    }

    private static void promise20WithARideOfItTwice() {
        Connectory x = Worlds.stops(3, 0);
        x.trip(0, 0, 9, 127, 0, 100);
        x.calls(0, 1, 10, 0);
        x.calls(0, 2, 10, 0);
        x.book(0, 2, 0, 2);
        Check.due("it counts once", x.concerned(0, 0), 1);
    }

    // ---- promise 21: seats.

    private static void promise21FirstAndLastDay() {
        Connectory x = Worlds.stops(2, 5);
        x.trip(0, 0, 7, 1, 0, 100);
        x.calls(0, 1, 10, 0);
        x.book(0, 1, 0, 1);
        Check.due("day 0", x.seats(0, 0), 6);
        Check.due("day 1, on which it does not run", x.seats(0, 1), 7);
        Check.due("day 99", x.seats(0, 99), 7);
        Check.argument("day -1", () -> x.seats(0, -1));
        Check.argument("day 100", () -> x.seats(0, 100));
        Check.argument("the least number", () -> x.seats(0, Integer.MIN_VALUE));
        Check.argument("the largest number", () -> x.seats(0, Integer.MAX_VALUE));
        x.runs(0, 0, false);
        Check.due("day 0, told not to run", x.seats(0, 0), 6);
        x.delay(0, 0, NONE);
        Check.due("day 0, cancelled", x.seats(0, 0), 6);
    }

    private static void promise21FirstAndLastTrip() {
        Connectory x = Worlds.stops(1, 5);
        for (int i = 0; i < 20; i++) {
            x.trip(0, 0, i + 1, 127, 0, 100);
        }
        Check.due("the first", x.seats(0, 0), 1);
        Check.due("the last", x.seats(19, 0), 20);
        Check.index("-1", () -> x.seats(-1, 0));
        Check.index("20", () -> x.seats(20, 0));
        Check.index("no trip is thrown ahead of day 100", () -> x.seats(20, 100));
        Check.index("and of day -1", () -> x.seats(-1, -1));
    }

    private static void promise21TheWholeRun() {
        Connectory x = Worlds.stops(3, 0);
        x.trip(0, 0, 2, 127, 0, 100);
        x.calls(0, 1, 10, 0);
        x.calls(0, 2, 10, 0);
        x.book(0, 1, 0, 1);
        Check.due("one less", x.seats(0, 0), 1);
        x.book(1, 2, 0, 1);
        Check.due("one less for the rest of it", x.seats(0, 0), 0);
        Check.state("none is left anywhere", () -> x.book(0, 2, 0, 1));
    }

    private static void promise21OfEachKindOfBooking() {
        Connectory x = Worlds.chain(1);
        x.prices(0, 9, 0, 0);
        for (int i = 0; i < 3; i++) {
            x.book(0, 1, 0, 1);
        }
        Check.due("held", x.seats(0, 0), 97);
        x.buy(0);
        x.buy(1);
        Check.due("bought", x.seats(0, 0), 97);
        x.pass(30);
        Check.due("held still", x.seats(0, 0), 97);
        x.pass(1);
        Check.due("dropped", x.seats(0, 0), 98);
        x.delay(0, 0, NONE);
        x.claim(0);
        Check.due("claimed", x.seats(0, 0), 98);
    }

    // ---- promise 22: pass.

    private static void promise22LeastAndMostMinutes() {
        Connectory x = Worlds.chain(1);
        Check.due("1", x.pass(1), 0);
        Check.due("1440", x.pass(1440), 0);
        x.book(0, 1, 0, 1);
        x.pass(30);
        Check.argument("0", () -> x.pass(0));
        Check.argument("-1", () -> x.pass(-1));
        Check.argument("1441", () -> x.pass(1441));
        Check.argument("the least number", () -> x.pass(Integer.MIN_VALUE));
        Check.argument("the largest number", () -> x.pass(Integer.MAX_VALUE));
        Check.due("no minute went by in that", x.ofBooking(0, 0), Connectory.HELD);
        Check.due("till now", x.pass(1), 1);
    }

    private static void promise22ThirtyAndThirtyOneMinutes() {
        Connectory x = Worlds.chain(1);
        x.pass(1440);
        x.book(0, 1, 0, 1);
        Check.due("29", x.pass(29), 0);
        Check.due("30", x.pass(1), 0);
        Check.due("held", x.ofBooking(0, 0), Connectory.HELD);
        Check.due("31", x.pass(1), 1);
        Check.due("dropped", x.ofBooking(0, 0), Connectory.DROPPED);
        Check.due("32", x.pass(1), 0);
    }

    private static void promise22EachByItsOwnTime() {
        Connectory x = Worlds.chain(1);
        for (int i = 0; i < 3; i++) {
            x.book(0, 1, 0, 1);
            x.pass(10);
        }
        Check.due("30 minutes of the first", x.ofBooking(0, 0), Connectory.HELD);
        Check.due("31 of the first", x.pass(1), 1);
        Check.due("30 of the second", x.pass(9), 0);
        Check.due("31 of the second", x.pass(1), 1);
        Check.due("41 of the third at once", x.pass(20), 1);
    }

    private static void promise22AllAtOnce() {
        Connectory x = Worlds.chain(1);
        Check.due("no booking", x.pass(31), 0);
        for (int i = 0; i < 30; i++) {
            x.book(0, 1, 0, 1);
        }
        x.buy(7);
        Check.due("29 of 30", x.pass(1440), 29);
        Check.due("none again", x.pass(1440), 0);
        Check.due("the bought one stays", x.concerned(0, 0), 1 << 7);
    }

    private static void promise22BoughtAndClaimedStay() {
        Connectory x = bought(100);
        x.book(0, 2, 50, 2);
        x.buy(1);
        x.delay(1, 0, NONE);
        x.claim(1);
        Check.due("none", x.pass(31), 0);
        Check.due("bought", x.ofBooking(0, 0), Connectory.BOUGHT);
        Check.due("claimed", x.ofBooking(1, 0), Connectory.CLAIMED);
    }

    // ---- promise 23: ofBooking.

    private static void promise23FirstAndLastWhat() {
        Connectory x = Worlds.chain(4);
        x.prices(0, 10, 1, 0);
        x.book(0, 4, 0, 4);
        Check.due("0 how it is", x.ofBooking(0, 0), Connectory.HELD);
        Check.due("1 its fare", x.ofBooking(0, 1), 14);
        Check.due("2 how many rides", x.ofBooking(0, 2), 4);
        Check.due("3 when it comes to the goal", x.ofBooking(0, 3), 140);
        Check.argument("-1", () -> x.ofBooking(0, -1));
        Check.argument("4", () -> x.ofBooking(0, 4));
        Check.argument("the least number", () -> x.ofBooking(0, Integer.MIN_VALUE));
        Check.argument("the largest number", () -> x.ofBooking(0, Integer.MAX_VALUE));
    }

    private static void promise23FirstAndLastBooking() {
        Connectory x = Worlds.chain(2);
        Check.index("none at all", () -> x.ofBooking(0, 0));
        for (int i = 0; i < 30; i++) {
            x.book(0, 1 + i / 29, 0, 1 + i / 29);
        }
        Check.due("the first", x.ofBooking(0, 2), 1);
        Check.due("the last", x.ofBooking(29, 2), 2);
        Check.index("-1", () -> x.ofBooking(-1, 0));
        Check.index("30", () -> x.ofBooking(30, 0));
        Check.index("no booking is thrown ahead of what", () -> x.ofBooking(30, 4));
        Check.index("and of what -1", () -> x.ofBooking(-1, -1));
    }

    private static void promise23HowItIs() {
        Connectory x = bought(9);
        x.book(0, 2, 50, 2);
        Check.due("bought", x.ofBooking(0, 0), 1);
        Check.due("held", x.ofBooking(1, 0), 0);
        x.pass(31);
        Check.due("dropped", x.ofBooking(1, 0), 2);
        x.delay(0, 0, NONE);
        x.claim(0);
        Check.due("claimed", x.ofBooking(0, 0), 3);
    }

    private static void promise23AsItWasTold() {
        Connectory x = Worlds.stops(3, 5);
        x.footway(1, 2, 7);
        Worlds.line(x, 0, 100, 1, 10);
        x.prices(0, 60, 0, 0);
        x.book(0, 2, 0, 1);
        x.footway(1, 2, NONE);
        x.delay(0, 0, NONE);
        x.prices(0, 1, 1, 1);
        Check.due("the footway behind too", x.ofBooking(0, 3), 117);
        Check.due("the fare", x.ofBooking(0, 1), 60);
        Check.due("the rides", x.ofBooking(0, 2), 1);
    }
}
