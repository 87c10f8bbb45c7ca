import java.util.ArrayList;
import java.util.List;

/**
 * Each argument of each call: the last values that are taken and the first ones that are refused, alone and two at
 * once, with and without a state that refuses the call too; and a refused call changes nothing.
 */
final class LimitsTest {
    private static final String INDEX = "throws.IndexOutOfBoundsException";
    private static final String ARGUMENT = "throws.IllegalArgumentException";
    private static final String STATE = "throws.IllegalStateException";

    private final List<Face> faces = new ArrayList<>();
    private final String some = Answers.of(Worlds.some(), Worlds.SOME);
    private final String full = Answers.of(Worlds.full(), Worlds.FULL);

    private LimitsTest() {
    }

    /** An argument: what it names (stop, trip, firm, booking), or nothing, and the least and the most. */
    private record Limit(String names, int least, int most) {
        String refusal() {
            return names.isEmpty() ? ARGUMENT : INDEX;
        }

        int mostIn(int[] counts) {
            switch (names) {
                case "stop": return counts[0] - 1;
                case "trip": return counts[1] - 1;
                case "booking": return counts[2] - 1;
                default: return most;
            }
        }

        List<Integer> wrong(int[] counts) {
            List<Integer> wrong = new ArrayList<>(List.of(least - 1, Integer.MIN_VALUE));
            if (mostIn(counts) < Integer.MAX_VALUE) {
                wrong.add(mostIn(counts) + 1);
                wrong.add(Integer.MAX_VALUE);
            }
            return wrong;
        }
    }

    /** A call with arguments that are taken in both worlds, and, in the full one, perhaps refused for its state. */
    private record Face(int promise, String call, int[] sound, int[] full, List<Limit> limits) { }

    public static void main(String[] args) {
        int[] kinds = {Connectory.BOUGHT, Connectory.DROPPED, Connectory.HELD, Connectory.CLAIMED, Connectory.BOUGHT};
        for (int i = 0; i < kinds.length; i++) {
            Check.due("a booking of each kind: " + i, Worlds.some().ofBooking(i, 0), kinds[i]);
        }
        new LimitsTest().go();
        Check.end("LimitsTest");
    }

    private static Limit stop() {
        return new Limit("stop", 0, 0);
    }

    private static Limit trip() {
        return new Limit("trip", 0, 0);
    }

    private static Limit booking() {
        return new Limit("booking", 0, 0);
    }

    private static Limit firm() {
        return new Limit("firm", 0, 2);
    }

    private static Limit to(int least, int most) {
        return new Limit("", least, most);
    }

    private void face(int promise, String call, int[] sound, int[] full, Limit... limits) {
        faces.add(new Face(promise, call, sound, full, List.of(limits)));
    }

    private static int[] by(int... numbers) {
        return numbers;
    }

    private void facesOfTrips() {
        face(2, "stop", by(5), by(5), to(0, 60));
        face(3, "footway", by(2, 3, 5), by(2, 3, 5), stop(), stop(), to(-1, 120));
        face(4, "trip", by(1, 1, 5, 5, 1, 5), by(1, 1, 5, 5, 1, 5),
            to(0, 2), firm(), to(1, 100), to(1, 127), stop(), to(0, 1439));
        face(5, "calls", by(3, 1, 5, 5), by(0, 1, 5, 5), trip(), stop(), to(1, 300), to(0, 60));
        face(5, "calls", by(3, 1, 5, 5), by(1, 1, 5, 5), trip(), stop(), to(1, 300), to(0, 60));
        face(6, "runs", by(1, 1, 0), by(1, 1, 0), trip(), to(0, 99));
        face(7, "delay", by(1, 1, 9), by(1, 1, 9), trip(), to(0, 99), to(-1, 600));
        face(8, "note", by(1, 9), by(0, 9), trip(), to(0, 600));
        face(9, "prices", by(1, 9, 9, 9), by(1, 9, 9, 9), firm(), to(0, 10000), to(0, 1000), to(0, 10000));
    }

    private void facesOfJourneys() {
        face(10, "arrival", by(1, 2, 90, 1), by(1, 2, 90, 1), stop(), stop(), to(0, 140000), to(1, 4));
        face(11, "arrivalAnew", by(1, 2, 90, 1), by(1, 2, 90, 1), stop(), stop(), to(0, 140000), to(1, 2));
        face(12, "front", by(1, 2, 90), by(1, 2, 90), stop(), stop(), to(0, 140000));
        face(13, "ride", by(1, 2, 90, 1, 0, 1), by(1, 2, 90, 1, 0, 1),
            stop(), stop(), to(0, 140000), to(1, 4), to(0, Integer.MAX_VALUE), to(0, 5));
        face(14, "journey", by(1, 2, 90, 1, 1), by(1, 2, 90, 1, 1),
            stop(), stop(), to(0, 140000), to(1, 4), to(0, 3));
        face(15, "best", by(1, 2, 90), by(1, 2, 90), stop(), stop(), to(0, 140000));
    }

    private void facesOfBookings() {
        face(16, "book", by(2, 3, 90, 1), by(3, 2, 90, 1), stop(), stop(), to(0, 140000), to(1, 4));
        face(16, "book", by(2, 3, 90, 1), by(0, 9, 105, 1), stop(), stop(), to(0, 140000), to(1, 4));
        face(16, "book", by(2, 3, 90, 1), by(0, 9, 1500, 1), stop(), stop(), to(0, 140000), to(1, 4));
        face(17, "buy", by(2), by(2), booking());
        face(18, "right", by(2), by(2), booking());
        face(19, "claim", by(0), by(2), booking());
        face(20, "concerned", by(1, 1), by(1, 1), trip(), to(0, 99));
        face(21, "seats", by(1, 1), by(1, 1), trip(), to(0, 99));
        face(22, "pass", by(9), by(9), to(1, 1440));
        face(23, "ofBooking", by(2, 1), by(2, 1), booking(), to(0, 3));
    }

    private void go() {
        facesOfTrips();
        facesOfJourneys();
        facesOfBookings();
        for (Face face : faces) {
            boolean hasState = List.of("stop", "trip", "calls", "note", "book", "claim").contains(face.call);
            Check.due(name(face, face.sound) + " is taken",
                !Calls.answer(Worlds.some(), face.call, face.sound).startsWith("throws"));
            if (hasState) {
                refused(face, face.full, false, STATE);
            }
            for (boolean inSome : new boolean[] {true, false}) {
                for (int i = 0; i < face.limits.size(); i++) {
                    one(face, i, inSome);
                    for (int j = i + 1; j < face.limits.size(); j++) {
                        two(face, i, j, inSome);
                    }
                }
            }
        }
        bothAreOne();
        noMinutes();
        refusedByState();
    }

    private static String name(Face face, int[] numbers) {
        return face.promise + ": " + Calls.told(face.call, numbers);
    }

    private void one(Face face, int i, boolean inSome) {
        int[] counts = inSome ? Worlds.SOME : Worlds.FULL;
        int[] sound = inSome ? face.sound : face.full;
        Limit limit = face.limits.get(i);
        for (int value : new int[] {limit.least, limit.mostIn(counts)}) {
            int[] numbers = with(sound, i, value);
            String answer = Calls.answer(inSome ? Worlds.some() : Worlds.full(), face.call, numbers);
            boolean taken = !answer.equals(INDEX) && !answer.equals(ARGUMENT) && !answer.contains("machine");
            boolean toItself = limit.names.equals("stop") && i < 2 && numbers[0] == numbers[1];
            Check.due(name(face, numbers) + " is no wrong input: " + answer, taken || toItself);
        }
        for (int value : limit.wrong(counts)) {
            refused(face, with(sound, i, value), inSome, limit.refusal());
        }
    }

    private void two(Face face, int i, int j, boolean inSome) {
        int[] counts = inSome ? Worlds.SOME : Worlds.FULL;
        int[] sound = inSome ? face.sound : face.full;
        Limit one = face.limits.get(i);
        Limit two = face.limits.get(j);
        for (int value : one.wrong(counts)) {
            for (int other : two.wrong(counts)) {
                refused(face, with(with(sound, i, value), j, other), inSome,
                    one.names.isEmpty() ? two.refusal() : INDEX);
            }
        }
    }

    private static int[] with(int[] numbers, int index, int value) {
        int[] changed = numbers.clone();
        changed[index] = value;
        return changed;
    }

    private void refused(Face face, int[] numbers, boolean inSome, String due) {
        Connectory x = inSome ? Worlds.some() : Worlds.full();
        String where = inSome ? "" : " where all is full";
        Check.due(name(face, numbers) + where, Calls.answer(x, face.call, numbers), due);
        Check.due(name(face, numbers) + where + " changes nothing",
            Answers.of(x, inSome ? Worlds.SOME : Worlds.FULL).equals(inSome ? some : full));
    }

    /** Two stops that are one are an argument out of range, behind stops that are not there, ahead of a state. */
    private void bothAreOne() {
        for (Face face : faces) {
            if (face.limits.size() > 2 && face.limits.get(0).names.equals("stop")) {
                for (boolean inSome : new boolean[] {true, false}) {
                    int[] sound = inSome ? face.sound : face.full;
                    int count = inSome ? Worlds.SOME[0] : Worlds.FULL[0];
                    for (int stop : new int[] {0, 1, count - 1}) {
                        refused(face, with(with(sound, 0, stop), 1, stop), inSome, ARGUMENT);
                    }
                    for (int stop : new int[] {-1, count}) {
                        refused(face, with(with(sound, 0, stop), 1, stop), inSome, INDEX);
                    }
                }
            }
        }
    }

    /** No footway takes 0 minutes, though NONE is less than that. */
    private void noMinutes() {
        for (Face face : faces) {
            if (face.call.equals("footway")) {
                refused(face, by(2, 3, 0), true, ARGUMENT);
                refused(face, by(3, 4, 0), true, ARGUMENT);
                refused(face, by(3, 3, 0), true, ARGUMENT);
                refused(face, by(5, 3, 0), true, INDEX);
                refused(face, by(3, -1, 0), true, INDEX);
            }
        }
    }

    /** What a state refuses though not all is full. */
    private void refusedByState() {
        for (Face face : faces) {
            switch (face.call) {
                case "calls" -> byState(face, by(0, 2, 5, 5), by(1, 2, 5, 5), by(2, 2, 5, 5));
                // No journey, no journey by so many, no seat, no seat in the second ride, none in the first.
                case "book" -> byState(face, by(3, 0, 90, 1), by(0, 3, 90, 1), by(1, 2, 1580, 1), by(0, 2, 1500, 2),
                    by(1, 3, 1580, 2));
                case "buy" -> byState(face, by(0), by(1), by(3), by(4));
                case "claim" -> byState(face, by(1), by(2), by(3), by(4));
                default -> { }
            }
        }
    }

    private void byState(Face face, int[]... calls) {
        for (int[] numbers : calls) {
            refused(face, numbers, true, STATE);
        }
    }
}
