import java.util.ArrayList;
import java.util.List;

/** A call that throws changes nothing: whatever is asked or told behind it is answered as without it. */
final class RefusalTest {
    interface Refused {
        void go(Connectory x);
    }

    private static final int[] WRONG = {Integer.MIN_VALUE, -2, -1, 0, 61, 99, 100, 601, 1441, 10001, 140001,
        Integer.MAX_VALUE};

    private RefusalTest() {
    }

    public static void main(String[] args) {
        String due = answers(world(), false) + answers(world(), true);
        Check.due("bookings of all kinds", due.contains("how 1203"));
        List<Refused> calls = calls();
        int refused = 0;
        for (int i = 0; i < calls.size(); i++) {
            Refused call = calls.get(i);
            Connectory asked = world();
            String thrown = Check.thrownBy(() -> call.go(asked));
            if (!thrown.equals("nothing")) {
                refused++;
                Connectory told = world();
                Check.thrownBy(() -> call.go(told));
                Check.due("behind call " + i + " with " + thrown, answers(asked, false) + answers(told, true), due);
            }
        }
        Check.due("most calls are refused: " + refused + " of " + calls.size(), refused > 150);
        Check.end("RefusalTest");
    }

    /** Five stops, four trips, and bookings BOUGHT, HELD, CLAIMED and DROPPED; trip 3 has one stop. */
    private static Connectory world() {
        Connectory x = new Connectory();
        for (int i = 0; i < 5; i++) {
            x.stop(5 + i);
        }
        x.footway(3, 4, 12);
        for (int i = 0; i < 3; i++) {
            x.trip(i, i / 2, 5 - i, 127, i, 100 + 50 * i);
            x.calls(i, i + 1, 20, 5);
            x.prices(i, 50 + i, 20, 30);
            x.note(i, 3 * i);
            x.note(i, 40);
        }
        x.trip(0, 1, 1, 3, 4, 1000);
        x.delay(1, 0, 2);
        x.runs(2, 1, false);
        x.book(0, 3, 90, 3);
        x.buy(0);
        x.pass(5);
        x.book(0, 1, 90, 1);
        x.pass(28);
        x.book(1, 3, 1580, 2);
        x.book(1, 2, 1580, 1);
        x.buy(3);
        x.delay(1, 1, 70);
        x.claim(3);
        x.pass(1);
        x.book(0, 2, 1500, 2);
        x.pass(20);
        return x;
    }

    /** What is asked, or, if it is to be told too, what calls that change something answer. */
    private static String answers(Connectory x, boolean telling) {
        StringBuilder text = new StringBuilder();
        if (telling) {
            tell(x, text);
        }
        text.append("how ");
        for (int i = 0; i < 4; i++) {
            text.append(x.ofBooking(i, 0));
        }
        for (int i = 0; i < 5; i++) {
            text.append(' ').append(x.ofBooking(i, 0)).append(x.ofBooking(i, 1)).append(x.ofBooking(i, 3));
            text.append(' ').append(x.right(i));
        }
        for (int trip = 0; trip < 4; trip++) {
            for (int day = 0; day < 3; day++) {
                text.append(' ').append(x.seats(trip, day)).append('/').append(x.concerned(trip, day));
            }
        }
        int[] times = {0, 90, 1500};
        for (int time : times) {
            text.append(" front ").append(x.front(0, 3, time)).append(x.front(0, 4, time)).append(x.best(0, 4, time));
            for (int rides = 1; rides < 4; rides++) {
                text.append(' ').append(x.arrival(0, rides, time, rides));
                text.append(' ').append(x.ride(0, 4, time, 3, rides - 1, 4));
                for (int what = 0; what < 4; what++) {
                    text.append(' ').append(x.journey(0, rides, time, rides, what));
                }
            }
        }
        return text.append('\n').toString();
    }

    private static void tell(Connectory x, StringBuilder text) {
        for (int trip = 0; trip < 4; trip++) {
            text.append(" note ").append(x.note(trip, 5));
            for (int day = 0; day < 3; day++) {
                text.append(' ').append(x.delay(trip, day, 1)).append(x.runs(trip, day, true));
            }
        }
        for (int stop = 0; stop < 5; stop++) {
            for (int other = 0; other < stop; other++) {
                text.append(" foot ").append(x.footway(stop, other, 100));
            }
        }
        text.append(" calls ").append(x.calls(3, 0, 30, 10)).append(" trip ").append(x.trip(1, 1, 1, 1, 0, 0));
        text.append(" stop ").append(x.stop(0)).append(" book ").append(x.book(4, 0, 900, 1));
        text.append(" pass ").append(x.pass(10)).append(x.pass(1)).append(x.pass(19)).append(x.pass(1));
    }

    private static List<Refused> calls() {
        List<Refused> calls = new ArrayList<>();
        for (int value : WRONG) {
            calls.add(x -> x.stop(value));
            calls.add(x -> x.pass(value));
            calls.add(x -> x.right(value + 5));
            calls.add(x -> x.buy(value));
            calls.add(x -> x.buy(value + 5));
            calls.add(x -> x.claim(value));
            calls.add(x -> x.claim(value + 1));
            calls.add(x -> x.claim(value + 5));
            footways(calls, value);
            trips(calls, value);
            ways(calls, value);
        }
        calls.add(x -> x.calls(0, 2, 5, 5));
        calls.add(x -> x.calls(2, 2, 5, 5));
        calls.add(x -> x.buy(0));
        calls.add(x -> x.claim(1));
        calls.add(x -> x.book(0, 4, 90, 4));
        calls.add(x -> x.book(3, 0, 90, 1));
        return calls;
    }

    private static void footways(List<Refused> calls, int value) {
        calls.add(x -> x.footway(value, 1, 30));
        calls.add(x -> x.footway(0, value, 30));
        calls.add(x -> x.footway(3, 4, value));
        calls.add(x -> x.prices(value, 1, 1, 1));
        calls.add(x -> x.prices(0, value, 1, 1));
        calls.add(x -> x.prices(0, 1, value, 1));
        calls.add(x -> x.prices(0, 1, 1, value));
    }

    private static void trips(List<Refused> calls, int value) {
        calls.add(x -> x.trip(value, 0, 5, 127, 0, 100));
        calls.add(x -> x.trip(0, value, 5, 127, 0, 100));
        calls.add(x -> x.trip(0, 0, value, 127, 0, 100));
        calls.add(x -> x.trip(0, 0, 5, value, 0, 100));
        calls.add(x -> x.trip(0, 0, 5, 127, value, 100));
        calls.add(x -> x.trip(0, 0, 5, 127, 0, value));
        calls.add(x -> x.calls(value, 0, 5, 5));
        calls.add(x -> x.calls(3, value, 5, 5));
        calls.add(x -> x.calls(3, 0, value, 5));
        calls.add(x -> x.calls(3, 0, 5, value));
        calls.add(x -> x.runs(value, 0, false));
        calls.add(x -> x.runs(0, value, false));
        calls.add(x -> x.delay(value, 0, 5));
        calls.add(x -> x.delay(0, value, 5));
        calls.add(x -> x.delay(0, 0, value));
        calls.add(x -> x.note(value, 5));
        calls.add(x -> x.note(0, value));
        calls.add(x -> x.concerned(value, 0));
        calls.add(x -> x.concerned(0, value));
        calls.add(x -> x.seats(value, 0));
        calls.add(x -> x.seats(0, value));
    }

    private static void ways(List<Refused> calls, int value) {
        calls.add(x -> x.book(value, 3, 90, 3));
        calls.add(x -> x.book(0, value, 90, 3));
        calls.add(x -> x.book(0, 3, value, 3));
        calls.add(x -> x.book(0, 3, 90, value));
        calls.add(x -> x.arrival(value, 3, 90, 3));
        calls.add(x -> x.arrivalAnew(0, value, 90, 1));
        calls.add(x -> x.front(0, 3, value));
        calls.add(x -> x.best(value, 3, 90));
        calls.add(x -> x.ride(0, 3, 90, value, 0, 0));
        calls.add(x -> x.ride(0, 3, 90, 3, 0, value));
        calls.add(x -> x.journey(0, 3, 90, 3, value));
        calls.add(x -> x.ofBooking(value, 0));
        calls.add(x -> x.ofBooking(0, value));
    }
}
