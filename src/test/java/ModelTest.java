import java.util.ArrayList;
import java.util.HashSet;
import java.util.List;
import java.util.Random;
import java.util.Set;

/**
 * Runs of calls, each the same whenever the test runs, answered by Connectory and by a model that was written
 * from the document alone: it enumerates rides and journeys one by one and keeps no tables.
 */
final class ModelTest {
    private static final int RUNS = 700;
    private static final int CALLS = 512;

    private final Random random;
    private final Connectory program = new Connectory();
    private final Model model = new Model();
    private final String name;
    private final boolean dense;
    private final int center;
    private static final int[] answered = new int[22];
    private static final int[] refused = new int[22];
    private static final int[] rideCounts = new int[5];
    private static int rights = 0;

    private ModelTest(int run) {
        random = new Random(7919L * run + 3);
        name = "run " + run;
        dense = run % 3 != 0;
        center = run % 11 == 0 ? 97 * 1440 : run % 5 == 0 ? 0 : 1440 * (run % 7);
    }

    public static void main(String[] args) {
        for (int run = 0; run < RUNS; run++) {
            new ModelTest(run).go();
        }
        for (int i = 0; i < answered.length; i++) {
            Check.due("often enough answered: call " + i + " " + answered[i], answered[i] > 200);
            Check.due("often enough refused: call " + i + " " + refused[i], refused[i] > 50);
        }
        for (int k = 1; k < rideCounts.length; k++) {
            Check.due("often enough told: rides " + k + " " + rideCounts[k], rideCounts[k] > 150);
        }
        Check.due("often enough a right: " + rights, rights > 300);
        Check.end("ModelTest");
    }

    private void go() {
        int setting = dense ? 60 : 150;
        for (int i = 0; i < CALLS; i++) {
            int call = i < setting ? settingCall(i) : anyCall();
            one(i, call, arguments(call));
        }
    }

    private int settingCall(int i) {
        if (i < 5) {
            return 0;
        }
        int[] kinds = {1, 2, 3, 3, 3, 3, 4, 5, 6, 7};
        return random.nextInt(5) == 0 || model.trips.size() < 3 ? kinds[random.nextInt(kinds.length)] : 3;
    }

    private int anyCall() {
        int[] likely = {8, 9, 10, 11, 11, 12, 12, 12, 13, 14, 14, 15, 16, 16, 17, 17, 18, 19, 20, 21, 5, 5, 4, 6, 7, 1};
        return random.nextInt(20) == 0 ? random.nextInt(22) : likely[random.nextInt(likely.length)];
    }

    private void one(int i, int call, int[] a) {
        StringBuilder text = new StringBuilder(name + " call " + i + ": " + NAMES[call] + "(");
        for (int value : a) {
            text.append(value).append(' ');
        }
        String got = askProgram(call, a);
        String due = askModel(call, a);
        if (due.startsWith("throws")) {
            refused[call]++;
        } else {
            answered[call]++;
            if (call == 12 && a[5] == 0 && a[4] == 0 && !due.equals("-1")) {
                rideCounts[a[3]]++;
            }
            if (call == 16 && !due.equals("0")) {
                rights++;
            }
        }
        Check.due(text.append(')').toString(), got, due);
    }

    private static final String[] NAMES = {"stop", "footway", "trip", "calls", "runs", "delay", "note", "prices",
        "arrival", "arrivalAnew", "front", "best", "ride", "journey", "book", "buy", "right", "claim", "concerned",
        "seats", "pass", "ofBooking"};

    // ---- arguments, mostly ones that are taken.

    private int near(int least, int most) {
        switch (random.nextInt(60)) {
            case 0: return least - 1;
            case 1: return most + 1;
            case 2: return least;
            case 3: return most;
            case 4: return random.nextInt();
            default: return least + random.nextInt(most - least + 1);
        }
    }

    private int among(int size) {
        return size == 0 || random.nextInt(40) == 0 ? near(-1, size) : random.nextInt(size);
    }

    private int aStop() {
        return among(model.transfers.size());
    }

    private int aTrip() {
        return among(model.trips.size());
    }

    private int aBooking() {
        return among(model.bookings.size());
    }

    private int aDay() {
        return random.nextInt(6) == 0 ? near(0, 99) : Math.max(0, Math.min(99, center / 1440 + random.nextInt(5) - 2));
    }

    private int aTime() {
        if (random.nextInt(12) == 0) {
            return near(0, 140000);
        }
        int time = center + random.nextInt(dense ? 700 : 2880);
        return random.nextInt(30) == 0 ? time : Math.min(time, 140000);
    }

    private int[] arguments(int call) {
        switch (call) {
            case 0: return new int[] {random.nextInt(3) == 0 ? near(0, 60) : random.nextInt(8)};
            case 1: return new int[] {aStop(), aStop(), random.nextInt(6) == 0 ? near(-1, 120) : 1 + random.nextInt(25)};
            case 2: return new int[] {near(0, 2), near(0, 2), random.nextInt(3) == 0 ? near(1, 100)
                : 1 + random.nextInt(4), random.nextInt(3) == 0 ? near(1, 127) : 127, aStop(),
                dense ? random.nextInt(500) : near(0, 1439)};
            case 3: return new int[] {aTrip(), aStop(), dense ? 1 + random.nextInt(60) : near(1, 300),
                random.nextInt(3) == 0 ? near(0, 60) : random.nextInt(6)};
            case 4: return new int[] {aTrip(), aDay(), random.nextInt(3) == 0 ? 0 : 1};
            case 5: return new int[] {aTrip(), aDay(), random.nextInt(4) == 0 ? near(-1, 600) : random.nextInt(9) - 1};
            case 6: return new int[] {aTrip(), random.nextInt(3) == 0 ? near(0, 600) : random.nextInt(30)};
            case 7: return new int[] {among(3), near(0, 10000), near(0, 1000), near(0, 10000)};
            case 8: return new int[] {aStop(), aStop(), aTime(), near(1, 4)};
            case 9: return new int[] {aStop(), aStop(), aTime(), near(1, 2)};
            case 10:
            case 11: return new int[] {aStop(), aStop(), aTime()};
            case 12: return new int[] {aStop(), aStop(), aTime(), near(1, 4), random.nextInt(4), near(0, 5)};
            case 13: return new int[] {aStop(), aStop(), aTime(), near(1, 4), near(0, 3)};
            case 14: return new int[] {aStop(), aStop(), aTime(), near(1, 4)};
            case 15:
            case 16:
            case 17: return new int[] {aBooking()};
            case 18:
            case 19: return new int[] {aTrip(), aDay()};
            case 20: return new int[] {random.nextInt(4) == 0 ? near(1, 1440) : 1 + random.nextInt(16)};
            default: return new int[] {aBooking(), near(0, 3)};
        }
    }

    // ---- the two answers, as texts.

    private String askProgram(int call, int[] a) {
        try {
            switch (call) {
                case 0: return "" + program.stop(a[0]);
                case 1: return "" + program.footway(a[0], a[1], a[2]);
                case 2: return "" + program.trip(a[0], a[1], a[2], a[3], a[4], a[5]);
                case 3: return "" + program.calls(a[0], a[1], a[2], a[3]);
                case 4: return "" + program.runs(a[0], a[1], a[2] == 1);
                case 5: return "" + program.delay(a[0], a[1], a[2]);
                case 6: return "" + program.note(a[0], a[1]);
                case 7: program.prices(a[0], a[1], a[2], a[3]); return "";
                case 8: return "" + program.arrival(a[0], a[1], a[2], a[3]);
                case 9: return "" + program.arrivalAnew(a[0], a[1], a[2], a[3]);
                case 10: return "" + program.front(a[0], a[1], a[2]);
                case 11: return "" + program.best(a[0], a[1], a[2]);
                case 12: return "" + program.ride(a[0], a[1], a[2], a[3], a[4], a[5]);
                case 13: return "" + program.journey(a[0], a[1], a[2], a[3], a[4]);
                case 14: return "" + program.book(a[0], a[1], a[2], a[3]);
                case 15: return "" + program.buy(a[0]);
                case 16: return "" + program.right(a[0]);
                case 17: return "" + program.claim(a[0]);
                case 18: return "" + program.concerned(a[0], a[1]);
                case 19: return "" + program.seats(a[0], a[1]);
                case 20: return "" + program.pass(a[0]);
                default: return "" + program.ofBooking(a[0], a[1]);
            }
        } catch (RuntimeException thrown) {
            return "throws." + Check.nameOf(thrown);
        }
    }

    private String askModel(int call, int[] a) {
        try {
            return model.answer(call, a);
        } catch (Refused refused) {
            return "throws." + refused.getMessage();
        }
    }

    private static final class Refused extends Exception {
        private static final long serialVersionUID = 1L;

        Refused(String name) {
            super(name);
        }
    }

    // ---- the model.

    private record Visit(int stop, int reached, int left) { }

    private record Run(int trip, int day) { }

    private record Hop(int trip, int day, int board, int leave, int from, int to, int departs, int arrives) { }

    private record Way(int time, List<Hop> hops, List<Integer> changes, int walk, int end) { }

    private static final class Line {
        int mode, firm, seats, days;
        List<Visit> visits = new ArrayList<>();
        Integer[] told = new Integer[100];
        int[] delays = new int[100];
        List<Integer> notes = new ArrayList<>();

        boolean there(int day) {
            return told[day] != null ? told[day] == 1 : (days >> (day % 7)) % 2 == 1;
        }
    }

    private static final class Deal {
        Way way;
        int fare, made, state;
        Set<Run> runs = new HashSet<>();
    }

    private static final class Model {
        final List<Integer> transfers = new ArrayList<>();
        final int[][] foot = new int[10][10];
        final List<Line> trips = new ArrayList<>();
        final List<Deal> bookings = new ArrayList<>();
        final int[][] prices = new int[3][3];
        int now = 0;

        void index(int value, int size) throws Refused {
            if (value < 0 || value >= size) {
                throw new Refused("IndexOutOfBoundsException");
            }
        }

        void argument(boolean holds) throws Refused {
            if (!holds) {
                throw new Refused("IllegalArgumentException");
            }
        }

        void state(boolean holds) throws Refused {
            if (!holds) {
                throw new Refused("IllegalStateException");
            }
        }

        boolean in(int value, int least, int most) {
            return least <= value && value <= most;
        }

        String answer(int call, int[] a) throws Refused {
            if (call < 8) {
                return "" + set(call, a);
            }
            if (call < 15) {
                index(a[0], transfers.size());
                index(a[1], transfers.size());
                argument(a[0] != a[1] && in(a[2], 0, 140000));
                return way(call, a);
            }
            return "" + booking(call, a);
        }

        String set(int call, int[] a) throws Refused {
            switch (call) {
                case 0:
                    argument(in(a[0], 0, 60));
                    state(transfers.size() < 10);
                    transfers.add(a[0]);
                    return "" + (transfers.size() - 1);
                case 1:
                    index(a[0], transfers.size());
                    index(a[1], transfers.size());
                    argument(a[0] != a[1] && (a[2] == -1 || in(a[2], 1, 120)));
                    int before = foot[a[0]][a[1]] == 0 ? -1 : foot[a[0]][a[1]];
                    foot[a[0]][a[1]] = Math.max(0, a[2]);
                    foot[a[1]][a[0]] = Math.max(0, a[2]);
                    return "" + before;
                case 2:
                    index(a[1], 3);
                    index(a[4], transfers.size());
                    argument(in(a[0], 0, 2) && in(a[2], 1, 100) && in(a[3], 1, 127) && in(a[5], 0, 1439));
                    state(trips.size() < 20);
                    Line made = new Line();
                    made.mode = a[0];
                    made.firm = a[1];
                    made.seats = a[2];
                    made.days = a[3];
                    made.visits.add(new Visit(a[4], a[5], a[5]));
                    trips.add(made);
                    return "" + (trips.size() - 1);
                case 3:
                    index(a[0], trips.size());
                    index(a[1], transfers.size());
                    argument(in(a[2], 1, 300) && in(a[3], 0, 60));
                    Line line = trips.get(a[0]);
                    state(line.visits.size() < 6);
                    for (Deal deal : bookings) {
                        for (Run run : deal.runs) {
                            state(run.trip != a[0]);
                        }
                    }
                    int reached = line.visits.get(line.visits.size() - 1).left + a[2];
                    line.visits.add(new Visit(a[1], reached, reached + a[3]));
                    return "" + line.visits.size();
                default:
                    return setMore(call, a);
            }
        }

        String setMore(int call, int[] a) throws Refused {
            if (call == 7) {
                index(a[0], 3);
                argument(in(a[1], 0, 10000) && in(a[2], 0, 1000) && in(a[3], 0, 10000));
                prices[a[0]] = new int[] {a[1], a[2], a[3]};
                return "";
            }
            index(a[0], trips.size());
            Line line = trips.get(a[0]);
            if (call == 6) {
                argument(in(a[1], 0, 600));
                state(line.notes.size() < 30);
                line.notes.add(a[1]);
                return "" + line.notes.size();
            }
            argument(in(a[1], 0, 99));
            if (call == 4) {
                boolean before = line.there(a[1]);
                line.told[a[1]] = a[2];
                return "" + before;
            }
            argument(in(a[2], -1, 600));
            int before = line.delays[a[1]];
            line.delays[a[1]] = a[2];
            return "" + before;
        }

        String way(int call, int[] a) throws Refused {
            if (call == 10 || call == 11) {
                return "" + (call == 10 ? front(a) : best(a));
            }
            argument(in(a[3], 1, call == 9 ? 2 : 4));
            if (call == 9) {
                return "" + none(tryAll(hops(a[2]), a, a[0], a[2], a[3], true));
            }
            if (call == 12) {
                argument(in(a[5], 0, 5) && a[4] >= 0);
            }
            if (call == 13) {
                argument(in(a[4], 0, 3));
            }
            Way way = told(a, a[3]);
            switch (call) {
                case 8: return "" + (way == null ? -1 : way.end);
                case 12: return "" + (way == null || a[4] >= way.hops.size() ? -1 : tell(way.hops.get(a[4]), a[5]));
                case 13: return "" + (way == null ? -1.0 : tell(way, a[4]));
                default: return "" + book(way);
            }
        }

        int tell(Hop hop, int what) {
            int[] all = {hop.trip, hop.day, hop.from, hop.to, hop.departs, hop.arrives};
            return all[what];
        }

        double tell(Way way, int what) {
            return what == 0 ? chance(way) : what == 1 ? carbon(way) : what == 2 ? score(way) : (double) fare(way.hops);
        }

        int none(long time) {
            return time == Long.MAX_VALUE ? -1 : (int) time;
        }

        /** All rides that the time looks at, by trip, day, boarding, leaving. */
        List<Hop> hops(int time) {
            List<Hop> all = new ArrayList<>();
            for (int t = 0; t < trips.size(); t++) {
                Line line = trips.get(t);
                for (int day = time / 1440 - 1; day <= time / 1440 + 1; day++) {
                    if (day < 0 || day > 99 || !line.there(day) || line.delays[day] == -1) {
                        continue;
                    }
                    for (int i = 0; i < line.visits.size(); i++) {
                        for (int j = i + 1; j < line.visits.size(); j++) {
                            Visit on = line.visits.get(i);
                            Visit off = line.visits.get(j);
                            int later = 1440 * day + line.delays[day];
                            all.add(new Hop(t, day, i, j, on.stop, off.stop, on.left + later, off.reached + later));
                        }
                    }
                }
            }
            return all;
        }

        int minutes(int ahead, int stop, boolean first) {
            if (ahead == stop) {
                return first ? 0 : transfers.get(stop);
            }
            return foot[ahead][stop] == 0 ? -1 : foot[ahead][stop];
        }

        long tryAll(List<Hop> hops, int[] a, int stop, int time, int rides, boolean first) {
            long least = Long.MAX_VALUE;
            for (Hop hop : hops) {
                int minutes = minutes(stop, hop.from, first);
                if (minutes < 0 || hop.departs < time + minutes) {
                    continue;
                }
                if (rides > 1) {
                    least = Math.min(least, tryAll(hops, a, hop.to, hop.arrives, rides - 1, false));
                } else if (minutes(hop.to, a[1], true) >= 0) {
                    least = Math.min(least, hop.arrives + minutes(hop.to, a[1], true));
                }
            }
            return least;
        }

        /** The earliest arrivals by no ride (just the beginning), one ride, and so on, at each stop. */
        long[][] earliest(List<Hop> hops, int[] a, int rides) {
            long[][] earliest = new long[rides + 1][transfers.size()];
            for (long[] row : earliest) {
                java.util.Arrays.fill(row, Long.MAX_VALUE);
            }
            earliest[0][a[0]] = a[2];
            for (int k = 1; k <= rides; k++) {
                for (Hop hop : hops) {
                    if (hop.departs >= ready(earliest, k - 1, hop.from)) {
                        earliest[k][hop.to] = Math.min(earliest[k][hop.to], hop.arrives);
                    }
                }
            }
            return earliest;
        }

        long ready(long[][] earliest, int k, int stop) {
            long least = Long.MAX_VALUE;
            for (int ahead = 0; ahead < transfers.size(); ahead++) {
                int minutes = minutes(ahead, stop, k == 0);
                if (minutes >= 0 && earliest[k][ahead] != Long.MAX_VALUE) {
                    least = Math.min(least, earliest[k][ahead] + minutes);
                }
            }
            return least;
        }

        Way told(int[] a, int rides) {
            List<Hop> hops = hops(a[2]);
            long[][] earliest = earliest(hops, a, rides);
            long end = Long.MAX_VALUE;
            int last = -1;
            for (int stop = transfers.size() - 1; stop >= 0; stop--) {
                if (stop != a[1] && foot[stop][a[1]] > 0 && earliest[rides][stop] != Long.MAX_VALUE
                    && earliest[rides][stop] + foot[stop][a[1]] <= end) {
                    end = earliest[rides][stop] + foot[stop][a[1]];
                    last = stop;
                }
            }
            if (earliest[rides][a[1]] <= end) {
                end = earliest[rides][a[1]];
                last = a[1];
            }
            if (end == Long.MAX_VALUE) {
                return null;
            }
            List<Hop> told = new ArrayList<>();
            List<Integer> changes = new ArrayList<>();
            int stop = last;
            for (int k = rides; k >= 1; k--) {
                Hop hop = hopTo(hops, earliest, k, stop);
                stop = ahead(earliest, k - 1, hop);
                told.add(0, hop);
                changes.add(0, minutes(stop, hop.from, k == 1));
            }
            return new Way(a[2], told, changes, minutes(last, a[1], true), (int) end);
        }

        Hop hopTo(List<Hop> hops, long[][] earliest, int k, int stop) {
            for (Hop hop : hops) {
                if (hop.to == stop && hop.arrives == earliest[k][stop]
                    && hop.departs >= ready(earliest, k - 1, hop.from)) {
                    return hop;
                }
            }
            throw new AssertionError("no ride is told");
        }

        int ahead(long[][] earliest, int k, Hop hop) {
            if (inTime(earliest, k, hop.from, hop)) {
                return hop.from;
            }
            for (int stop = 0; stop < transfers.size(); stop++) {
                if (stop != hop.from && inTime(earliest, k, stop, hop)) {
                    return stop;
                }
            }
            throw new AssertionError("no stop is told");
        }

        boolean inTime(long[][] earliest, int k, int stop, Hop hop) {
            int minutes = minutes(stop, hop.from, k == 0);
            return minutes >= 0 && earliest[k][stop] != Long.MAX_VALUE && earliest[k][stop] + minutes <= hop.departs;
        }

        int front(int[] a) {
            int sum = 0;
            for (int k = 1; k <= 4; k++) {
                boolean in = told(a, k) != null;
                for (int lower = 1; lower < k; lower++) {
                    in = in && (told(a, lower) == null || told(a, k).end < told(a, lower).end);
                }
                sum += in ? (int) Math.pow(2, k) : 0;
            }
            return sum;
        }

        int best(int[] a) {
            int best = -1;
            for (int k = 4; k >= 1; k--) {
                Way way = told(a, k);
                if (way != null && (best == -1 || score(way) <= score(told(a, best)))) {
                    best = k;
                }
            }
            return best;
        }

        double chance(Way way) {
            double chance = 1.0;
            for (int i = 1; i < way.hops.size(); i++) {
                int spare = way.hops.get(i).departs - (way.hops.get(i - 1).arrives + way.changes.get(i));
                List<Integer> notes = trips.get(way.hops.get(i - 1).trip).notes;
                long within = notes.stream().filter(late -> late <= spare).count();
                chance *= notes.isEmpty() ? 1.0 : (double) within / notes.size();
            }
            return chance;
        }

        double carbon(Way way) {
            double[] each = {14.0, 30.0, 120.0};
            double sum = 0.0;
            for (Hop hop : way.hops) {
                sum += each[trips.get(hop.trip).mode] * (hop.leave - hop.board);
            }
            return sum;
        }

        double score(Way way) {
            double score = way.end - way.time;
            for (int i = 0; i < way.hops.size(); i++) {
                score += 15.0;
            }
            return score + carbon(way) / 10.0;
        }

        /** By trying every set of cuts between the rides. */
        int fare(List<Hop> hops) {
            int least = Integer.MAX_VALUE;
            for (int cuts = 0; cuts < 1 << (hops.size() - 1); cuts++) {
                least = Math.min(least, fareCut(hops, cuts));
            }
            return least;
        }

        int fareCut(List<Hop> hops, int cuts) {
            int sum = 0;
            int stops = 0;
            for (int i = 0; i < hops.size(); i++) {
                int firm = trips.get(hops.get(i).trip).firm;
                boolean cut = i == hops.size() - 1 || (cuts >> i) % 2 == 1;
                stops += hops.get(i).leave - hops.get(i).board;
                if (!cut && trips.get(hops.get(i + 1).trip).firm != firm) {
                    return Integer.MAX_VALUE;
                }
                if (cut) {
                    sum += prices[firm][0] + stops * prices[firm][1] + (stops > 3 ? prices[firm][2] : 0);
                    stops = 0;
                }
            }
            return sum;
        }

        int free(Run run) {
            int free = trips.get(run.trip).seats;
            for (Deal deal : bookings) {
                free -= deal.state != 2 && deal.runs.contains(run) ? 1 : 0;
            }
            return free;
        }

        int book(Way way) throws Refused {
            state(way != null && bookings.size() < 30);
            Deal deal = new Deal();
            deal.way = way;
            deal.fare = fare(way.hops);
            deal.made = now;
            for (Hop hop : way.hops) {
                deal.runs.add(new Run(hop.trip, hop.day));
            }
            for (Run run : deal.runs) {
                state(free(run) > 0);
            }
            bookings.add(deal);
            return bookings.size() - 1;
        }

        int right(Deal deal) {
            if (deal.state != 1) {
                return 0;
            }
            int here = deal.way.time;
            for (int i = 0; i < deal.way.hops.size(); i++) {
                Hop hop = deal.way.hops.get(i);
                Line line = trips.get(hop.trip);
                int delay = line.delays[hop.day];
                int later = hop.day * 1440 + delay;
                if (!line.there(hop.day) || delay == -1) {
                    return deal.fare;
                }
                if (line.visits.get(hop.board).left + later < here + deal.way.changes.get(i)) {
                    return deal.fare;
                }
                here = line.visits.get(hop.leave).reached + later;
            }
            int late = here + deal.way.walk - deal.way.end;
            return late >= 120 ? deal.fare / 2 : late >= 60 ? deal.fare / 4 : 0;
        }

        int booking(int call, int[] a) throws Refused {
            if (call == 20) {
                argument(in(a[0], 1, 1440));
                now += a[0];
                int dropped = 0;
                for (Deal deal : bookings) {
                    if (deal.state == 0 && now >= deal.made + 31) {
                        deal.state = 2;
                        dropped++;
                    }
                }
                return dropped;
            }
            if (call == 18 || call == 19) {
                index(a[0], trips.size());
                argument(in(a[1], 0, 99));
                Run run = new Run(a[0], a[1]);
                return call == 19 ? free(run) : concerned(run);
            }
            index(a[0], bookings.size());
            Deal deal = bookings.get(a[0]);
            switch (call) {
                case 15:
                    state(deal.state == 0);
                    deal.state = 1;
                    return deal.fare;
                case 16:
                    return right(deal);
                case 17:
                    int right = right(deal);
                    state(right != 0);
                    deal.state = 3;
                    return right;
                default:
                    argument(in(a[1], 0, 3));
                    int[] all = {deal.state, deal.fare, deal.way.hops.size(), deal.way.end};
                    return all[a[1]];
            }
        }

        int concerned(Run run) {
            int sum = 0;
            for (int i = 0; i < bookings.size(); i++) {
                if (bookings.get(i).state < 2 && bookings.get(i).runs.contains(run)) {
                    sum += (int) Math.pow(2, i);
                }
            }
            return sum;
        }
    }
}
