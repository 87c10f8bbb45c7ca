import java.util.ArrayList;
import java.util.Arrays;

/** Ways through a continent, in whole minutes: the earliest, the told one, what it costs, and who books it. */
public final class Connectory {
    public static final int NONE = -1;
    public static final int HELD = 0, BOUGHT = 1, DROPPED = 2, CLAIMED = 3;

    private static final int MOST_STOPS = 10;
    private static final int MOST_TRIPS = 20;
    private static final int MOST_PLACES = 6;
    private static final int MOST_NOTES = 30;
    private static final int MOST_BOOKINGS = 30;
    private static final int MOST_RIDES = 4;
    private static final int MODES = 3;
    private static final int FIRMS = 3;
    private static final int WEEK = 7;
    private static final int DAYS = 100;
    private static final int DAY = 1440;
    private static final int LAST_TIME = 140000;
    private static final int HOLDING = 30;
    private static final int CHEAP_STOPS = 3;
    private static final int[] CARBON = {14, 30, 120};

    // Behind every arrival, yet so far below the greatest int that minutes can be added to it.
    private static final int NEVER = 1000000000;

    private final Network network;
    private final Search search;
    private final Trial trial;
    private final Fares fares;
    private final ArrayList<Booking> bookings;
    private int now;

    public Connectory() {
        Network made = new Network();
        network = made;
        search = new Search(made);
        trial = new Trial(made);
        fares = new Fares();
        bookings = new ArrayList<Booking>();
        now = 0;
    }

    // ---- stops, trips.

    public int stop(int transfer) throws IllegalArgumentException, IllegalStateException {
        needRange(transfer, 0, 60);
        if (network.stops >= MOST_STOPS) {
            throw new IllegalStateException("no more stops");
        }
        return network.addStop(transfer);
    }

    public int footway(int stop, int other, int minutes)
            throws IndexOutOfBoundsException, IllegalArgumentException {
        needStop(stop);
        needStop(other);
        if (stop == other || minutes == 0) {
            throw new IllegalArgumentException("a footway leads to another stop, in minutes");
        }
        needRange(minutes, NONE, 120);
        int before = network.walk(stop, other);
        network.setWalk(stop, other, minutes);
        return before;
    }

    public int trip(int mode, int firm, int seats, int days, int stop, int minute)
            throws IndexOutOfBoundsException, IllegalArgumentException, IllegalStateException {
        needFirm(firm);
        needStop(stop);
        needRange(mode, 0, MODES - 1);
        needRange(seats, 1, 100);
        needRange(days, 1, 127);
        needRange(minute, 0, DAY - 1);
        int number = network.trips.size();
        if (number >= MOST_TRIPS) {
            throw new IllegalStateException("no more trips");
        }
        Trip made = new Trip(number, mode, firm, seats);
        made.setWeek(days);
        made.begin(stop, minute);
        network.trips.add(made);
        return number;
    }

    public int calls(int trip, int stop, int rides, int waits)
            throws IndexOutOfBoundsException, IllegalArgumentException, IllegalStateException {
        Trip found = tripOf(trip);
        needStop(stop);
        needRange(rides, 1, 300);
        needRange(waits, 0, 60);
        if (found.size >= MOST_PLACES || isBooked(found)) {
            throw new IllegalStateException("the trip does not go on");
        }
        found.goOn(stop, rides, waits);
        return found.size;
    }

    public boolean runs(int trip, int day, boolean runs)
            throws IndexOutOfBoundsException, IllegalArgumentException {
        Trip found = tripOf(trip);
        needRange(day, 0, DAYS - 1);
        boolean before = found.isThere(day);
        found.setThere(day, runs);
        return before;
    }

    public int delay(int trip, int day, int minutes)
            throws IndexOutOfBoundsException, IllegalArgumentException {
        Trip found = tripOf(trip);
        needRange(day, 0, DAYS - 1);
        needRange(minutes, NONE, 600);
        int before = at(found.delays, day);
        put(found.delays, day, minutes);
        return before;
    }

    public int note(int trip, int minutes)
            throws IndexOutOfBoundsException, IllegalArgumentException, IllegalStateException {
        Trip found = tripOf(trip);
        needRange(minutes, 0, 600);
        if (found.noted >= MOST_NOTES) {
            throw new IllegalStateException("no more notes");
        }
        put(found.notes, found.noted, minutes);
        found.noted++;
        return found.noted;
    }

    public void prices(int firm, int base, int cents, int surcharge)
            throws IndexOutOfBoundsException, IllegalArgumentException {
        needFirm(firm);
        needRange(base, 0, 10000);
        needRange(cents, 0, 1000);
        needRange(surcharge, 0, 10000);
        fares.setPrices(firm, base, cents, surcharge);
    }

    // ---- journeys.

    public int arrival(int from, int to, int time, int rides)
            throws IndexOutOfBoundsException, IllegalArgumentException {
        needWay(from, to, time);
        needRange(rides, 1, MOST_RIDES);
        search.seek(from, to, time, rides);
        return timeOrNone(search.end(rides));
    }

    public int arrivalAnew(int from, int to, int time, int rides)
            throws IndexOutOfBoundsException, IllegalArgumentException {
        needWay(from, to, time);
        needRange(rides, 1, 2);
        return timeOrNone(trial.tryAll(from, to, time, rides));
    }

    public int front(int from, int to, int time) throws IndexOutOfBoundsException, IllegalArgumentException {
        needWay(from, to, time);
        search.seek(from, to, time, MOST_RIDES);
        int least = NEVER;
        int sum = 0;
        for (int rides = 1; rides <= MOST_RIDES; rides++) {
            int end = search.end(rides);
            if (end < least) {
                least = end;
                sum += 1 << rides;
            }
        }
        return sum;
    }

    public int ride(int from, int to, int time, int rides, int ride, int what)
            throws IndexOutOfBoundsException, IllegalArgumentException {
        needWay(from, to, time);
        needRange(rides, 1, MOST_RIDES);
        needRange(what, 0, 5);
        if (ride < 0) {
            throw new IllegalArgumentException("out of range");
        }
        search.seek(from, to, time, rides);
        Journey found = search.tell(rides);
        Ride asked = found == null ? null : found.rideAt(ride);
        return asked == null ? NONE : asked.tell(what);
    }

    public double journey(int from, int to, int time, int rides, int what)
            throws IndexOutOfBoundsException, IllegalArgumentException {
        needWay(from, to, time);
        needRange(rides, 1, MOST_RIDES);
        needRange(what, 0, 3);
        search.seek(from, to, time, rides);
        Journey found = search.tell(rides);
        if (found == null) {
            return -1.0;
        }
        switch (what) {
            case 0: return found.chance();
            case 1: return found.carbon();
            case 2: return found.score();
            default: return (double) fares.fareOf(found);
        }
    }

    public int best(int from, int to, int time) throws IndexOutOfBoundsException, IllegalArgumentException {
        needWay(from, to, time);
        search.seek(from, to, time, MOST_RIDES);
        int chosen = NONE;
        double least = 0.0;
        for (int rides = 1; rides <= MOST_RIDES; rides++) {
            Journey found = search.tell(rides);
            if (found != null && (chosen == NONE || found.score() < least)) {
                chosen = rides;
                least = found.score();
            }
        }
        return chosen;
    }

    // ---- bookings.

    public int book(int from, int to, int time, int rides)
            throws IndexOutOfBoundsException, IllegalArgumentException, IllegalStateException {
        needWay(from, to, time);
        needRange(rides, 1, MOST_RIDES);
        search.seek(from, to, time, rides);
        Journey found = search.tell(rides);
        int number = bookings.size();
        if (found == null || number >= MOST_BOOKINGS || !hasSeats(found)) {
            throw new IllegalStateException("this can't be booked");
        }
        bookings.add(new Booking(found, fares.fareOf(found), now));
        return number;
    }

    public int buy(int booking) throws IndexOutOfBoundsException, IllegalStateException {
        Booking found = bookingOf(booking);
        if (found.state != HELD) {
            throw new IllegalStateException("the booking is not held");
        }
        found.state = BOUGHT;
        return found.fare;
    }

    public int right(int booking) throws IndexOutOfBoundsException {
        return bookingOf(booking).amount();
    }

    public int claim(int booking) throws IndexOutOfBoundsException, IllegalStateException {
        Booking found = bookingOf(booking);
        int amount = found.amount();
        if (amount == 0) {
            throw new IllegalStateException("there is no right");
        }
        found.state = CLAIMED;
        return amount;
    }

    public int concerned(int trip, int day) throws IndexOutOfBoundsException, IllegalArgumentException {
        Trip found = tripOf(trip);
        needRange(day, 0, DAYS - 1);
        int sum = 0;
        for (int i = 0; i < bookings.size(); i++) {
            Booking booking = bookings.get(i);
            if (booking.isOpen() && booking.journey.goesBy(found, day)) {
                sum += 1 << i;
            }
        }
        return sum;
    }

    public int seats(int trip, int day) throws IndexOutOfBoundsException, IllegalArgumentException {
        Trip found = tripOf(trip);
        needRange(day, 0, DAYS - 1);
        return freeSeats(found, day);
    }

    public int pass(int minutes) throws IllegalArgumentException {
        needRange(minutes, 1, DAY);
        now += minutes;
        int dropped = 0;
        for (int i = 0; i < bookings.size(); i++) {
            Booking booking = bookings.get(i);
            if (booking.state == HELD && now - booking.made > HOLDING) {
                booking.state = DROPPED;
                dropped++;
            }
        }
        return dropped;
    }

    public int ofBooking(int booking, int what) throws IndexOutOfBoundsException, IllegalArgumentException {
        Booking found = bookingOf(booking);
        needRange(what, 0, 3);
        switch (what) {
            case 0: return found.state;
            case 1: return found.fare;
            case 2: return found.journey.size;
            default: return found.journey.end;
        }
    }

    // ---- what the calls above have in common.

    private static void needRange(int value, int least, int most) {
        if (value < least || value > most) {
            throw new IllegalArgumentException("out of range");
        }
    }

    private static void needFirm(int firm) {
        if (firm < 0 || firm >= FIRMS) {
            throw new IndexOutOfBoundsException("no such firm");
        }
    }

    private void needStop(int stop) {
        if (stop < 0 || stop >= network.stops) {
            throw new IndexOutOfBoundsException("no such stop");
        }
    }

    private void needWay(int from, int to, int time) {
        needStop(from);
        needStop(to);
        if (from == to) {
            throw new IllegalArgumentException("a journey goes to another stop");
        }
        needRange(time, 0, LAST_TIME);
    }

    private Trip tripOf(int trip) {
        if (trip < 0 || trip >= network.trips.size()) {
            throw new IndexOutOfBoundsException("no such trip");
        }
        return network.trips.get(trip);
    }

    private Booking bookingOf(int booking) {
        if (booking < 0 || booking >= bookings.size()) {
            throw new IndexOutOfBoundsException("no such booking");
        }
        return bookings.get(booking);
    }

    private static int timeOrNone(int time) {
        return time < NEVER ? time : NONE;
    }

    private boolean isBooked(Trip trip) {
        for (int i = 0; i < bookings.size(); i++) {
            if (bookings.get(i).journey.goesBy(trip, NONE)) {
                return true;
            }
        }
        return false;
    }

    private boolean hasSeats(Journey journey) {
        for (Ride ride = journey.first; ride != null; ride = ride.next) {
            if (freeSeats(ride.trip, ride.day) < 1) {
                return false;
            }
        }
        return true;
    }

    private int freeSeats(Trip trip, int day) {
        int free = trip.seats;
        for (int i = 0; i < bookings.size(); i++) {
            Booking booking = bookings.get(i);
            // Counted by bookings, not by rides: one that goes by a run twice sits in one seat.
            if (booking.state != DROPPED && booking.journey.goesBy(trip, day)) {
                free--;
            }
        }
        return free;
    }

    // All indexes go through at and put, so that no row can be asked beyond its ends.
    private static int at(int[] row, int index) {
        return index >= 0 && index < row.length ? row[index] : NONE;
    }

    private static void put(int[] row, int index, int value) {
        if (index >= 0 && index < row.length) {
            row[index] = value;
        }
    }

    private static int firstDayFor(int time) {
        return Math.max(0, time / DAY - 1);
    }

    private static int lastDayFor(int time) {
        return Math.min(DAYS - 1, time / DAY + 1);
    }

    /** The stops, the footways of each two of them, and the trips. */
    private static final class Network {
        final int[] transfers = new int[MOST_STOPS];
        final int[] walks = new int[MOST_STOPS * MOST_STOPS];
        final ArrayList<Trip> trips = new ArrayList<Trip>();
        int stops;

        Network() {
            Arrays.fill(walks, NONE);
        }

        int addStop(int transfer) {
            int number = stops;
            put(transfers, number, transfer);
            stops++;
            return number;
        }

        int transferAt(int stop) {
            return at(transfers, stop);
        }

        int walk(int stop, int other) {
            return at(walks, stop * MOST_STOPS + other);
        }

        void setWalk(int stop, int other, int minutes) {
            put(walks, stop * MOST_STOPS + other, minutes);
            put(walks, other * MOST_STOPS + stop, minutes);
        }
    }

    /** A trip: its places, one for each stop in its row, and its runs by their days. */
    private static final class Trip {
        final int number;
        final int mode;
        final int firm;
        final int seats;
        final int[] stops = new int[MOST_PLACES];
        final int[] reached = new int[MOST_PLACES];
        final int[] left = new int[MOST_PLACES];
        final boolean[] there = new boolean[DAYS];
        final int[] delays = new int[DAYS];
        final int[] notes = new int[MOST_NOTES];
        int size;
        int noted;

        Trip(int number, int mode, int firm, int seats) {
            this.number = number;
            this.mode = mode;
            this.firm = firm;
            this.seats = seats;
        }

        void setWeek(int days) {
            for (int day = 0; day < there.length; day++) {
                there[day] = (days & 1 << (day % WEEK)) != 0;
            }
        }

        void begin(int stop, int minute) {
            put(stops, 0, stop);
            put(reached, 0, minute);
            put(left, 0, minute);
            size = 1;
        }

        void goOn(int stop, int rides, int waits) {
            int arrives = at(left, size - 1) + rides;
            put(stops, size, stop);
            put(reached, size, arrives);
            put(left, size, arrives + waits);
            size++;
        }

        boolean isThere(int day) {
            return day >= 0 && day < there.length && there[day];
        }

        void setThere(int day, boolean isThere) {
            if (day >= 0 && day < there.length) {
                there[day] = isThere;
            }
        }

        boolean goes(int day) {
            return isThere(day) && at(delays, day) != NONE;
        }

        int stopAt(int place) {
            return at(stops, place);
        }

        int reaches(int day, int place) {
            return day * DAY + at(reached, place) + at(delays, day);
        }

        int leaves(int day, int place) {
            return day * DAY + at(left, place) + at(delays, day);
        }

        double chanceWithin(int minutes) {
            if (noted == 0) {
                return 1.0;
            }
            int within = 0;
            for (int i = 0; i < noted; i++) {
                if (at(notes, i) <= minutes) {
                    within++;
                }
            }
            return (double) within / (double) noted;
        }
    }

    /** A ride by a run, and the one behind it; it is told by the run as that is now. */
    private static final class Ride {
        final Trip trip;
        final int day;
        final int board;
        final int leave;
        final Ride next;
        // From the arrival ahead of it, or the journey's beginning, to being ready for it, as it was when found.
        int changing;

        Ride(Trip trip, int day, int board, int leave, Ride next) {
            this.trip = trip;
            this.day = day;
            this.board = board;
            this.leave = leave;
            this.next = next;
        }

        int boardsAt() {
            return trip.stopAt(board);
        }

        int departs() {
            return trip.leaves(day, board);
        }

        int arrives() {
            return trip.reaches(day, leave);
        }

        int length() {
            return leave - board;
        }

        int tell(int what) {
            switch (what) {
                case 0: return trip.number;
                case 1: return day;
                case 2: return boardsAt();
                case 3: return trip.stopAt(leave);
                case 4: return departs();
                default: return arrives();
            }
        }
    }

    /** A chain of rides from a time on, with the minutes on foot behind the last one. */
    private static final class Journey {
        final int time;
        final Ride first;
        final int size;
        final int walking;
        final int end;

        Journey(int time, Ride first, int size, int walking, int end) {
            this.time = time;
            this.first = first;
            this.size = size;
            this.walking = walking;
            this.end = end;
        }

        Ride rideAt(int index) {
            int i = 0;
            for (Ride ride = first; ride != null; ride = ride.next) {
                if (i == index) {
                    return ride;
                }
                i++;
            }
            return null;
        }

        /** Whether a ride is of the trip, and of its run on the day if that is not NONE. */
        boolean goesBy(Trip trip, int day) {
            for (Ride ride = first; ride != null; ride = ride.next) {
                if (ride.trip.number == trip.number && (day == NONE || ride.day == day)) {
                    return true;
                }
            }
            return false;
        }

        double chance() {
            double chance = 1.0;
            for (Ride ahead = first; ahead != null && ahead.next != null; ahead = ahead.next) {
                int spare = ahead.next.departs() - ahead.arrives() - ahead.next.changing;
                chance = chance * ahead.trip.chanceWithin(spare);
            }
            return chance;
        }

        double carbon() {
            double carbon = 0.0;
            for (Ride ride = first; ride != null; ride = ride.next) {
                carbon = carbon + (double) at(CARBON, ride.trip.mode) * (double) ride.length();
            }
            return carbon;
        }

        double score() {
            return (double) (end - time) + 15.0 * (double) size + carbon() / 10.0;
        }

        boolean isBroken() {
            int here = time;
            for (Ride ride = first; ride != null; ride = ride.next) {
                if (!ride.trip.goes(ride.day) || ride.departs() < here + ride.changing) {
                    return true;
                }
                here = ride.arrives();
            }
            return false;
        }

        int endNow() {
            int here = time;
            for (Ride ride = first; ride != null; ride = ride.next) {
                here = ride.arrives();
            }
            return here + walking;
        }
    }

    /** What tickets of each firm cost, and the least that tickets for a journey do. */
    private static final class Fares {
        final int[] bases = new int[FIRMS];
        final int[] cents = new int[FIRMS];
        final int[] surcharges = new int[FIRMS];
        final int[] least = new int[MOST_RIDES + 1];

        void setPrices(int firm, int base, int cent, int surcharge) {
            put(bases, firm, base);
            put(cents, firm, cent);
            put(surcharges, firm, surcharge);
        }

        int ticket(int firm, int stops) {
            int price = at(bases, firm) + at(cents, firm) * stops;
            return stops > CHEAP_STOPS ? price + at(surcharges, firm) : price;
        }

        int fareOf(Journey journey) {
            Arrays.fill(least, NEVER);
            put(least, 0, 0);
            int index = 0;
            for (Ride ride = journey.first; ride != null; ride = ride.next) {
                ticketsFrom(ride, index);
                index++;
            }
            return at(least, index);
        }

        // least tells, for each number of rides, the least cost of tickets for so many first ones.
        private void ticketsFrom(Ride from, int index) {
            int firm = from.trip.firm;
            int stops = 0;
            int last = index;
            for (Ride ride = from; ride != null && ride.trip.firm == firm; ride = ride.next) {
                stops += ride.length();
                last++;
                put(least, last, Math.min(at(least, last), at(least, index) + ticket(firm, stops)));
            }
        }
    }

    /** The earliest arrivals at all stops, ride by ride, and the journey that the rule tells by them. */
    private static final class Search {
        final Network network;
        final int[] arrivals = new int[(MOST_RIDES + 1) * MOST_STOPS];
        final int[] readies = new int[(MOST_RIDES + 1) * MOST_STOPS];
        int from;
        int to;
        int time;
        int firstDay;
        int lastDay;

        Search(Network network) {
            this.network = network;
        }

        void seek(int start, int goal, int begin, int rides) {
            from = start;
            to = goal;
            time = begin;
            firstDay = firstDayFor(begin);
            lastDay = lastDayFor(begin);
            Arrays.fill(arrivals, NEVER);
            Arrays.fill(readies, NEVER);
            setOut();
            for (int k = 1; k <= MOST_RIDES && k <= rides; k++) {
                rideOn(k);
                changeAll(k);
            }
        }

        private void setOut() {
            for (int stop = 0; stop < network.stops; stop++) {
                int walk = network.walk(from, stop);
                if (walk != NONE) {
                    put(readies, stop, time + walk);
                }
            }
            put(readies, from, time);
        }

        private void rideOn(int k) {
            for (int i = 0; i < network.trips.size(); i++) {
                Trip trip = network.trips.get(i);
                for (int day = firstDay; day <= lastDay && day < DAYS; day++) {
                    if (trip.goes(day)) {
                        rideRun(trip, day, k);
                    }
                }
            }
        }

        private void rideRun(Trip trip, int day, int k) {
            boolean aboard = false;
            for (int place = 0; place < trip.size; place++) {
                int stop = trip.stopAt(place);
                if (aboard) {
                    put(arrivals, k * MOST_STOPS + stop, Math.min(arrivalAt(k, stop), trip.reaches(day, place)));
                } else {
                    aboard = trip.leaves(day, place) >= readyAt(k - 1, stop);
                }
            }
        }

        private void changeAll(int k) {
            for (int stop = 0; stop < network.stops; stop++) {
                int ready = NEVER;
                for (int ahead = 0; ahead < network.stops; ahead++) {
                    ready = Math.min(ready, readyFrom(ahead, stop, k));
                }
                put(readies, k * MOST_STOPS + stop, ready);
            }
        }

        private int arrivalAt(int k, int stop) {
            return at(arrivals, k * MOST_STOPS + stop);
        }

        private int readyAt(int k, int stop) {
            return at(readies, k * MOST_STOPS + stop);
        }

        private int changing(int ahead, int stop) {
            return ahead == stop ? network.transferAt(stop) : network.walk(ahead, stop);
        }

        /** When one is ready at a stop that was at the one ahead by k rides. */
        private int readyFrom(int ahead, int stop, int k) {
            int minutes = changing(ahead, stop);
            int arrives = arrivalAt(k, ahead);
            return minutes == NONE || arrives >= NEVER ? NEVER : arrives + minutes;
        }

        private int endFrom(int stop, int k) {
            int minutes = stop == to ? 0 : network.walk(stop, to);
            int arrives = arrivalAt(k, stop);
            return minutes == NONE || arrives >= NEVER ? NEVER : arrives + minutes;
        }

        int end(int k) {
            int end = NEVER;
            for (int stop = 0; stop < network.stops; stop++) {
                end = Math.min(end, endFrom(stop, k));
            }
            return end;
        }

        /** The journey by so many rides, of those sought; null without one. */
        Journey tell(int rides) {
            int end = end(rides);
            if (end >= NEVER) {
                return null;
            }
            int stop = lastStop(rides, end);
            int walking = stop == to ? 0 : network.walk(stop, to);
            Ride first = null;
            for (int k = rides; k >= 1; k--) {
                Ride ride = rideTo(stop, k, first);
                if (ride == null) {
                    return null;
                }
                stop = stopAhead(ride, k);
                ride.changing = minutesAhead(stop, ride, k);
                first = ride;
            }
            return new Journey(time, first, rides, walking, end);
        }

        private int lastStop(int k, int end) {
            if (endFrom(to, k) == end) {
                return to;
            }
            for (int stop = 0; stop < network.stops; stop++) {
                if (endFrom(stop, k) == end) {
                    return stop;
                }
            }
            return to;
        }

        private Ride rideTo(int stop, int k, Ride next) {
            for (int i = 0; i < network.trips.size(); i++) {
                Trip trip = network.trips.get(i);
                for (int day = firstDay; day <= lastDay && day < DAYS; day++) {
                    int leave = trip.goes(day) ? leavingPlace(trip, day, stop, arrivalAt(k, stop)) : NONE;
                    int board = leave == NONE ? NONE : boardingPlace(trip, day, leave, k);
                    if (board != NONE) {
                        return new Ride(trip, day, board, leave, next);
                    }
                }
            }
            return null;
        }

        // There is at most one such place: each is reached later than the one ahead of it.
        private int leavingPlace(Trip trip, int day, int stop, int arrives) {
            for (int place = 1; place < trip.size; place++) {
                if (trip.stopAt(place) == stop && trip.reaches(day, place) == arrives) {
                    return place;
                }
            }
            return NONE;
        }

        private int boardingPlace(Trip trip, int day, int leave, int k) {
            for (int place = 0; place < leave; place++) {
                if (trip.leaves(day, place) >= readyAt(k - 1, trip.stopAt(place))) {
                    return place;
                }
            }
            return NONE;
        }

        private int stopAhead(Ride ride, int k) {
            int boards = ride.boardsAt();
            if (k == 1) {
                return from;
            }
            if (readyFrom(boards, boards, k - 1) <= ride.departs()) {
                return boards;
            }
            for (int stop = 0; stop < network.stops; stop++) {
                if (readyFrom(stop, boards, k - 1) <= ride.departs()) {
                    return stop;
                }
            }
            return boards;
        }

        private int minutesAhead(int ahead, Ride ride, int k) {
            int boards = ride.boardsAt();
            // Where the journey begins, nobody has to change.
            return k == 1 && ahead == boards ? 0 : changing(ahead, boards);
        }
    }

    /** The earliest time once more, by trying journeys ride behind ride, with no arrivals kept. */
    private static final class Trial {
        final Network network;
        int to;
        int firstDay;
        int lastDay;
        int least;

        Trial(Network network) {
            this.network = network;
        }

        int tryAll(int from, int goal, int time, int rides) {
            to = goal;
            firstDay = firstDayFor(time);
            lastDay = lastDayFor(time);
            least = NEVER;
            goOn(from, time, 0, rides);
            return least;
        }

        private void goOn(int stop, int time, int transfer, int rides) {
            if (rides < 1 || rides > MOST_RIDES) {
                return;
            }
            // Early days first: they find the early ends, which spare the late runs.
            for (int day = firstDay; day <= lastDay && day < DAYS; day++) {
                for (int i = 0; i < network.trips.size(); i++) {
                    Trip trip = network.trips.get(i);
                    if (trip.goes(day) && trip.leaves(day, 0) < least && trip.reaches(day, trip.size - 1) > time) {
                        tryRun(trip, day, stop, time, transfer, rides);
                    }
                }
            }
        }

        // Who boards at the first place possible is at all places behind it as early as by any other.
        private void tryRun(Trip trip, int day, int stop, int time, int transfer, int rides) {
            boolean aboard = false;
            for (int place = 0; place < trip.size; place++) {
                int here = trip.stopAt(place);
                if (aboard) {
                    leaveAt(here, trip.reaches(day, place), rides - 1);
                } else {
                    int minutes = here == stop ? transfer : network.walk(stop, here);
                    aboard = minutes != NONE && trip.leaves(day, place) >= time + minutes;
                }
            }
        }

        private void leaveAt(int stop, int time, int rides) {
            if (rides > 0) {
                if (time < least) {
                    goOn(stop, time, network.transferAt(stop), rides);
                }
                return;
            }
            int minutes = stop == to ? 0 : network.walk(stop, to);
            if (minutes != NONE) {
                least = Math.min(least, time + minutes);
            }
        }
    }

    /** A journey that somebody has booked, and what it cost then. */
    private static final class Booking {
        final Journey journey;
        final int fare;
        final int made;
        int state;

        Booking(Journey journey, int fare, int made) {
            this.journey = journey;
            this.fare = fare;
            this.made = made;
            this.state = HELD;
        }

        boolean isOpen() {
            return state == HELD || state == BOUGHT;
        }

        int amount() {
            if (state != BOUGHT) {
                return 0;
            }
            if (journey.isBroken()) {
                return fare;
            }
            int late = journey.endNow() - journey.end;
            if (late >= 120) {
                return fare / 2;
            }
            return late >= 60 ? fare / 4 : 0;
        }
    }
}
