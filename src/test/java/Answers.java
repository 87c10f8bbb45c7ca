/** All that an object answers, as one text: two objects in the same state answer the same. */
final class Answers {
    private static final int[] TIMES = {90, 105, 1500};

    private final StringBuilder text = new StringBuilder();
    private final Connectory x;

    private Answers(Connectory x) {
        this.x = x;
    }

    /** Of an object with so many stops, trips and bookings; it is asked first, then told things, then asked again. */
    static String of(Connectory x, int[] counts) {
        Answers answers = new Answers(x);
        answers.bookings(counts);
        answers.ways(counts);
        answers.tell(counts);
        answers.bookings(counts);
        return answers.text.toString();
    }

    private void ask(String call, int... numbers) {
        text.append(' ').append(Calls.answer(x, call, numbers));
    }

    private void bookings(int[] counts) {
        // Of many bookings or trips, some tell enough, and 512 calls are not passed.
        for (int i = 0; i <= counts[2]; i += counts[2] > 9 ? 4 : 1) {
            ask("right", i);
            for (int what = 0; what < 4; what++) {
                ask("ofBooking", i, what);
            }
        }
        for (int trip = 0; trip <= counts[1]; trip += counts[1] > 9 ? 3 : 1) {
            for (int day = 0; day < 3; day++) {
                ask("seats", trip, day);
                ask("concerned", trip, day);
            }
        }
    }

    private void ways(int[] counts) {
        for (int time : TIMES) {
            for (int to = 1; to < counts[0]; to += counts[0] > 9 ? 4 : 1) {
                ask("front", 0, to, time);
                ask("best", 0, to, time);
                ask("arrivalAnew", 0, to, time, 1);
                for (int what = 0; what < 4; what++) {
                    ask("journey", 0, to, time, 1 + to % 3, what);
                }
            }
            ask("arrival", 0, 3, time, 3);
            ask("ride", 0, 3, time, 3, 1, 4);
        }
    }

    private void tell(int[] counts) {
        ask("stop", 3);
        ask("trip", 0, 0, 3, 5, 0, 1000);
        ask("book", 0, 1, 1500, 1);
        ask("pass", 10);
        ask("pass", 1);
        ask("pass", 19);
        ask("pass", 1);
        for (int trip = 0; trip < counts[1]; trip++) {
            ask("note", trip, 5);
            ask("delay", trip, 0, 2);
            ask("runs", trip, 1, 1);
            ask("calls", trip, 2, 9, 3);
        }
        for (int stop = 1; stop < counts[0]; stop++) {
            ask("footway", 0, stop, 100);
            ask("footway", stop - 1, stop, 100);
        }
        ask("journey", 0, 3, 90, 1, 3);
        ask("claim", 0);
        ask("buy", 0);
        ask("buy", 2);
    }
}
