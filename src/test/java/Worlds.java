/** Networks that several tests begin with. */
final class Worlds {
    /** How many stops, trips and bookings there are in some(). */
    static final int[] SOME = {5, 4, 5};
    /** How many there are in full(). */
    static final int[] FULL = {10, 20, 30};

    private Worlds() {
    }

    static Connectory stops(int count, int transfer) {
        Connectory x = new Connectory();
        for (int i = 0; i < count; i++) {
            x.stop(transfer);
        }
        return x;
    }

    /** A daily train of firm 0 with 100 seats, leaving a stop at a minute, at another one so many minutes later. */
    static int line(Connectory x, int stop, int minute, int other, int rides) {
        return lineOf(x, 127, stop, minute, other, rides);
    }

    /** The same, on some days of the week. */
    static int lineOf(Connectory x, int days, int stop, int minute, int other, int rides) {
        int trip = x.trip(0, 0, 100, days, stop, minute);
        x.calls(trip, other, rides, 0);
        return trip;
    }

    /** Lines from stop 0 to stop 1 to stop 2 and so on, each ten minutes behind the one ahead, with no transfers. */
    static Connectory chain(int rides) {
        Connectory x = stops(rides + 1, 0);
        for (int i = 0; i < rides; i++) {
            line(x, i, 100 + 10 * i, i + 1, 10);
        }
        return x;
    }

    /**
     * Five stops, four trips, and bookings: 0 BOUGHT with a right, 1 DROPPED, 2 HELD, 3 CLAIMED, 4 BOUGHT without;
     * the trip 1 has no seat left on the day 1; the trip 3 has one stop.
     */
    static Connectory some() {
        Connectory x = new Connectory();
        for (int i = 0; i < 5; i++) {
            x.stop(5 + i);
        }
        x.footway(3, 4, 12);
        for (int i = 0; i < 3; i++) {
            x.trip(i, i / 2, i == 1 ? 2 : 5, 127, i, 100 + 50 * i);
            x.calls(i, i + 1, 20, 5);
            x.prices(i, 50 + i, 20, 30);
            x.note(i, 3 * i);
            x.note(i, 40);
        }
        x.trip(0, 1, 1, 3, 4, 1000);
        x.book(0, 3, 90, 3);
        x.buy(0);
        x.book(0, 1, 90, 1);
        x.pass(31);
        x.book(1, 3, 1580, 2);
        x.book(1, 2, 1580, 1);
        x.buy(3);
        x.delay(1, 1, 70);
        x.claim(3);
        x.delay(1, 0, 200);
        x.runs(2, 1, false);
        x.book(0, 1, 1500, 1);
        x.buy(4);
        x.pass(20);
        return x;
    }

    /**
     * Ten stops, twenty trips, thirty bookings of the trip 1, which has no seat left on the day 0; the trip 0 has six
     * stops and thirty noted delays, and no booking.
     */
    static Connectory full() {
        Connectory x = new Connectory();
        for (int i = 0; i < 10; i++) {
            x.stop(i);
        }
        for (int i = 0; i < 20; i++) {
            x.trip(i % 3, i % 3, 30, 127, i / 2, 100 + 10 * i);
        }
        for (int i = 1; i < 6; i++) {
            x.calls(0, i, 10, 1);
        }
        for (int i = 0; i < 30; i++) {
            x.note(0, i);
        }
        x.prices(1, 100, 10, 0);
        x.calls(1, 9, 10, 0);
        for (int i = 0; i < 30; i++) {
            x.book(0, 9, 105, 1);
        }
        return x;
    }
}
