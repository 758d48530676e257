import java.util.ArrayList;
import java.util.Arrays;
import java.util.List;
import java.util.NoSuchElementException;

/** The document in its plainest and slowest form: what RandomRunsTest holds ParkingEnforcement against. */
public final class PlainTown {
    private static final int INVALID = -1;
    private static final int WRONG_STATE = -2;
    private static final int NOT_POSSIBLE = -3;
    private static final int LIMIT = -4;
    private static final int FAR = 1 << 20;

    private static final class Ticket {
        int amount;
        int minute;
        boolean paid;
    }

    private static final class Auto {
        String state = "away";
        int place;
        int paid;
        int clamped;
        int fees;
        int credit;
        List<Ticket> tickets = new ArrayList<>();
    }

    private static final class State {
        int places = 1;
        List<int[]> roads = new ArrayList<>();
        int[] zone = new int[10];
        int[][] rate = new int[4][24];
        int[] stay = {120, 120, 120, 120};
        int[] spaces = {2, 2, 2, 2, 2, 2, 2, 2, 2, 2};
        int[] pound = new int[10];
        int truck = -1;
        int now;
        Auto[] cars = new Auto[16];
        List<int[]> log = new ArrayList<>();

        State() {
            for (int i = 0; i < 16; i++) {
                cars[i] = new Auto();
            }
        }

        State copy() {
            State c = new State();
            c.places = places;
            c.roads = new ArrayList<>(roads);
            c.zone = zone.clone();
            for (int z = 0; z < 4; z++) {
                c.rate[z] = rate[z].clone();
            }
            c.stay = stay.clone();
            c.spaces = spaces.clone();
            c.pound = pound.clone();
            c.truck = truck;
            c.now = now;
            for (int i = 0; i < 16; i++) {
                c.cars[i].state = cars[i].state;
                c.cars[i].place = cars[i].place;
                c.cars[i].paid = cars[i].paid;
                c.cars[i].clamped = cars[i].clamped;
                c.cars[i].fees = cars[i].fees;
                c.cars[i].credit = cars[i].credit;
                for (Ticket t : cars[i].tickets) {
                    Ticket d = new Ticket();
                    d.amount = t.amount;
                    d.minute = t.minute;
                    d.paid = t.paid;
                    c.cars[i].tickets.add(d);
                }
            }
            c.log = new ArrayList<>(log);
            return c;
        }
    }

    private static final class Bad extends Exception {
        private static final long serialVersionUID = 1;
        final int kind;
        final int where;

        Bad(int kind, int where) {
            this.kind = kind;
            this.where = where;
        }
    }

    /** Reads a description by cutting off its front. */
    private static final class Reading {
        final String whole;
        String rest;
        int numberStart;

        Reading(String text) {
            whole = text;
            rest = text;
        }

        int here() {
            return whole.length() - rest.length();
        }

        void spaces() {
            while (rest.startsWith(" ")) {
                rest = rest.substring(1);
            }
        }

        String run(String allowed) {
            int n = 0;
            while (n < rest.length() && allowed.indexOf(rest.charAt(n)) >= 0) {
                n++;
            }
            String run = rest.substring(0, n);
            rest = rest.substring(n);
            return run;
        }

        int number(int least, int most) throws Bad {
            spaces();
            numberStart = here();
            String digits = run("0123456789");
            if (digits.isEmpty()) {
                throw new Bad(1, numberStart);
            }
            java.math.BigInteger n = new java.math.BigInteger(digits);
            if (n.compareTo(java.math.BigInteger.valueOf(least)) < 0
                    || n.compareTo(java.math.BigInteger.valueOf(most)) > 0) {
                throw new Bad(2, numberStart);
            }
            return n.intValue();
        }

        State town() throws Bad {
            State s = new State();
            boolean first = true;
            List<Integer> pounds = new ArrayList<>();
            while (true) {
                spaces();
                int start = here();
                String word = run("abcdefghijklmnopqrstuvwxyz");
                if (first != word.equals("places")) {
                    throw new Bad(1, start);
                }
                first = false;
                statement(s, word, start, pounds);
                spaces();
                if (rest.isEmpty()) {
                    s.truck = pounds.isEmpty() ? -1 : pounds.get(0);
                    return s;
                }
                if (!rest.startsWith(";")) {
                    throw new Bad(1, here());
                }
                rest = rest.substring(1);
            }
        }

        private void statement(State s, String word, int start, List<Integer> pounds) throws Bad {
            int last = s.places - 1;
            if (word.equals("places")) {
                s.places = number(1, 10);
            } else if (word.equals("road")) {
                int a = number(0, last);
                int b = number(0, last);
                if (a == b) {
                    throw new Bad(3, numberStart);
                }
                s.roads.add(new int[] {a, b, number(1, 99)});
            } else if (word.equals("zone")) {
                int p = number(0, last);
                s.zone[p] = number(0, 3);
            } else if (word.equals("rate")) {
                int z = number(0, 3);
                int f = number(0, 23);
                int t = number(f + 1, 24);
                Arrays.fill(s.rate[z], f, t, number(0, 999));
            } else if (word.equals("stay")) {
                int z = number(0, 3);
                s.stay[z] = number(10, 600);
            } else if (word.equals("spaces")) {
                int p = number(0, last);
                s.spaces[p] = number(0, 8);
            } else if (word.equals("pound")) {
                int p = number(0, last);
                if (!pounds.contains(p) && pounds.size() == 2) {
                    throw new Bad(3, numberStart);
                }
                s.pound[p] = number(1, 6);
                if (!pounds.contains(p)) {
                    pounds.add(p);
                }
            } else {
                throw new Bad(1, start);
            }
        }
    }

    private State s = new State();
    private final State[] slots = new State[2];
    private String buffer = "";
    private int error;

    public int appendByte(int value) {
        if (value < 0 || value > 255 || buffer.length() == 600) {
            return INVALID;
        }
        buffer += (char) value;
        return buffer.length();
    }

    public int load() {
        String text = buffer;
        buffer = "";
        try {
            s = new Reading(text).town();
            error = 0;
            return s.places;
        } catch (Bad bad) {
            error = bad.kind;
            return -100 - bad.where;
        }
    }

    public int loadError() {
        return error;
    }

    private boolean car(int car) {
        return 0 <= car && car < 16;
    }

    private boolean place(int place) {
        return 0 <= place && place < s.places;
    }

    private boolean full() {
        return s.log.size() >= 340;
    }

    private void log(int kind, int car, int amount) {
        s.log.add(new int[] {s.now, kind, car, amount});
    }

    private int rateAt(int place, int t) {
        return s.rate[s.zone[place]][t / 60 % 24];
    }

    public int advance(int minutes) {
        if (minutes < 0 || minutes > 1440) {
            throw new IllegalArgumentException();
        }
        if (s.now + minutes > 10079) {
            return LIMIT;
        }
        s.now += minutes;
        return s.now;
    }

    public int park(int car, int place) {
        if (!car(car) || !place(place)) {
            return INVALID;
        }
        Auto a = s.cars[car];
        if (!a.state.equals("away")) {
            return WRONG_STATE;
        }
        if (freeSpaces(place) == 0) {
            return NOT_POSSIBLE;
        }
        if (full()) {
            return LIMIT;
        }
        a.state = "parked";
        a.place = place;
        a.paid = s.now;
        log(1, car, place);
        return freeSpaces(place);
    }

    private int until(int place, int from, int cents) {
        int t = from;
        for (int next = from + 1; next <= s.now + s.stay[s.zone[place]]; next++) {
            long cost = 0;
            for (int m = from; m < next; m++) {
                cost += rateAt(place, m);
            }
            if (cost > 60L * cents) {
                break;
            }
            t = next;
        }
        return t;
    }

    public int pay(int car, int cents) {
        if (!car(car) || cents < 1 || cents > 9999) {
            return INVALID;
        }
        Auto a = s.cars[car];
        if (!a.state.equals("parked")) {
            return WRONG_STATE;
        }
        int from = Math.max(a.paid, s.now);
        int t = until(a.place, from, cents);
        if (t <= from) {
            return NOT_POSSIBLE;
        }
        if (full()) {
            return LIMIT;
        }
        a.paid = t;
        log(2, car, cents);
        return t;
    }

    public int leave(int car) {
        if (!car(car)) {
            return INVALID;
        }
        Auto a = s.cars[car];
        if (!a.state.equals("parked")) {
            return WRONG_STATE;
        }
        if (full()) {
            return LIMIT;
        }
        int over = overtime(car);
        a.state = "away";
        log(3, car, over);
        return over;
    }

    private int overAt(Auto a, int when) {
        int n = 0;
        for (int t = a.paid; t <= when - 1; t++) {
            if (rateAt(a.place, t) > 0) {
                n++;
            }
        }
        return n;
    }

    private int unpaid(Auto a) {
        int n = 0;
        for (Ticket t : a.tickets) {
            if (!t.paid) {
                n++;
            }
        }
        return n;
    }

    private int fine(Auto a, int when) {
        if (!a.state.equals("parked")) {
            return 0;
        }
        for (Ticket t : a.tickets) {
            if (t.minute > when - 120) {
                return 0;
            }
        }
        int over = overAt(a, when);
        if (over <= 0) {
            return 0;
        }
        int amount = 6000;
        if (over <= 120) {
            amount = 3000;
        }
        if (over <= 30) {
            amount = 1500;
        }
        for (int i = 0; i < unpaid(a) && i < 5; i++) {
            amount += 500;
        }
        return amount;
    }

    public int inspect(int place) {
        if (!place(place)) {
            return INVALID;
        }
        if (full()) {
            return LIMIT;
        }
        int n = 0;
        for (int i = 0; i < 16; i++) {
            Auto a = s.cars[i];
            if (a.state.equals("parked") && a.place == place && fine(a, s.now) > 0) {
                Ticket t = new Ticket();
                t.amount = fine(a, s.now);
                t.minute = s.now;
                a.tickets.add(t);
                n++;
                log(4, i, t.amount);
                if (unpaid(a) >= 3) {
                    a.state = "clamped";
                    a.clamped = s.now;
                    a.fees += 8000;
                    log(5, i, 8000);
                }
            }
        }
        return n;
    }

    public int payFines(int car, int cents) {
        if (!car(car) || cents < 1 || cents > 99999) {
            return INVALID;
        }
        Auto a = s.cars[car];
        if (unpaid(a) == 0 && a.fees == 0) {
            return NOT_POSSIBLE;
        }
        if (full()) {
            return LIMIT;
        }
        a.credit += cents;
        log(6, car, cents);
        for (Ticket t : a.tickets) {
            if (!t.paid) {
                if (a.credit < t.amount) {
                    break;
                }
                a.credit -= t.amount;
                t.paid = true;
                log(7, car, t.amount);
            }
        }
        if (unpaid(a) == 0 && a.fees != 0 && a.credit >= a.fees) {
            a.credit -= a.fees;
            log(8, car, a.fees);
            a.fees = 0;
        }
        if (unpaid(a) == 0 && a.fees == 0) {
            if (a.state.equals("clamped")) {
                a.state = "parked";
                a.paid = s.now;
                log(9, car, a.place);
            } else if (a.state.equals("pound")) {
                a.state = "away";
                log(9, car, a.place);
            }
        }
        return due(car);
    }

    /** Trips of {car, pound, length}. */
    private List<int[]> bestTour() {
        List<Integer> cars = new ArrayList<>();
        for (int i = 0; i < 16; i++) {
            if ((towable() >> i & 1) == 1) {
                cars.add(i);
            }
        }
        cars.sort((a, b) -> s.cars[a].clamped != s.cars[b].clamped ? s.cars[a].clamped - s.cars[b].clamped : a - b);
        while (cars.size() > 6) {
            cars.remove(cars.size() - 1);
        }
        List<int[]> best = new ArrayList<>();
        if (s.truck >= 0 && !cars.isEmpty()) {
            int[] free = new int[10];
            for (int p = 0; p < s.places; p++) {
                free[p] = Math.max(0, poundFree(p));
            }
            tryTours(cars, free, s.truck, new ArrayList<>(), best, waysFromAll());
        }
        return best;
    }

    private int[][] waysFromAll() {
        int[][] ways = new int[s.places][];
        for (int p = 0; p < s.places; p++) {
            ways[p] = waysFrom(p);
        }
        return ways;
    }

    private void tryTours(List<Integer> cars, int[] free, int at, List<int[]> tour, List<int[]> best, int[][] ways) {
        if (betterTour(tour, best)) {
            best.clear();
            best.addAll(tour);
        }
        for (int i = cars.size() - 1; i >= 0; i--) {
            int car = cars.get(i);
            int place = s.cars[car].place;
            for (int p = s.places - 1; p >= 0; p--) {
                if (free[p] > 0 && ways[at][place] < FAR && ways[place][p] < FAR) {
                    cars.remove(i);
                    free[p]--;
                    tour.add(new int[] {car, p, ways[at][place] + 10 + ways[place][p]});
                    tryTours(cars, free, p, tour, best, ways);
                    tour.remove(tour.size() - 1);
                    free[p]++;
                    cars.add(i, car);
                }
            }
        }
    }

    private static int minutes(List<int[]> tour) {
        int sum = 0;
        for (int[] trip : tour) {
            sum += trip[2];
        }
        return sum;
    }

    private static boolean betterTour(List<int[]> a, List<int[]> b) {
        if (a.size() != b.size()) {
            return a.size() > b.size();
        }
        if (minutes(a) != minutes(b)) {
            return minutes(a) < minutes(b);
        }
        for (int i = 0; i < a.size(); i++) {
            for (int k = 0; k < 2; k++) {
                if (a.get(i)[k] != b.get(i)[k]) {
                    return a.get(i)[k] < b.get(i)[k];
                }
            }
        }
        return false;
    }

    public int towNext() {
        List<int[]> tour = bestTour();
        if (tour.isEmpty()) {
            return NOT_POSSIBLE;
        }
        int[] trip = tour.get(0);
        if (full() || s.now + trip[2] > 10079) {
            return LIMIT;
        }
        s.now += trip[2];
        s.truck = trip[1];
        Auto a = s.cars[trip[0]];
        a.state = "pound";
        a.place = trip[1];
        a.fees += 15000;
        log(10, trip[0], 15000);
        return trip[0];
    }

    public int setRate(int zone, int hour, int cents) {
        if (zone < 0 || zone > 3 || hour < 0 || hour > 23 || cents < 0 || cents > 999) {
            return INVALID;
        }
        int old = s.rate[zone][hour];
        s.rate[zone][hour] = cents;
        return old;
    }

    public int saveSnapshot(int index) {
        if (index != 0 && index != 1) {
            return INVALID;
        }
        slots[index] = s.copy();
        return s.now;
    }

    public int restoreSnapshot(int index) {
        if (index != 0 && index != 1) {
            return INVALID;
        }
        if (slots[index] == null) {
            return NOT_POSSIBLE;
        }
        s = slots[index].copy();
        return s.now;
    }

    public int now() {
        return s.now;
    }

    public int placeCount() {
        return s.places;
    }

    private int[] waysFrom(int from) {
        int[] way = new int[s.places];
        Arrays.fill(way, FAR);
        way[from] = 0;
        for (int round = 0; round < s.places; round++) {
            for (int[] r : s.roads) {
                way[r[0]] = Math.min(way[r[0]], way[r[1]] + r[2]);
                way[r[1]] = Math.min(way[r[1]], way[r[0]] + r[2]);
            }
        }
        return way;
    }

    public int distance(int from, int to) {
        if (!place(from) || !place(to)) {
            return INVALID;
        }
        int way = waysFrom(from)[to];
        return way >= FAR ? NOT_POSSIBLE : way;
    }

    public int nextOnWay(int from, int to) {
        if (!place(from) || !place(to) || from == to) {
            return INVALID;
        }
        int best = NOT_POSSIBLE;
        for (int[] r : s.roads) {
            for (int k = 0; k < 2; k++) {
                int a = r[k];
                int b = r[1 - k];
                if (a == from && distance(from, to) >= 0 && distance(b, to) >= 0
                        && r[2] + distance(b, to) == distance(from, to) && (best < 0 || b < best)) {
                    best = b;
                }
            }
        }
        return best;
    }

    public int zone(int place) {
        return place(place) ? s.zone[place] : INVALID;
    }

    public int rate(int zone, int hour) {
        return zone < 0 || zone > 3 || hour < 0 || hour > 23 ? INVALID : s.rate[zone][hour];
    }

    public int longestStay(int zone) {
        return zone < 0 || zone > 3 ? INVALID : s.stay[zone];
    }

    public int freeSpaces(int place) {
        return place(place) ? s.spaces[place] - Integer.bitCount(carsAt(place)) : INVALID;
    }

    public int carsAt(int place) {
        if (!place(place)) {
            return INVALID;
        }
        int set = 0;
        for (int i = 0; i < 16; i++) {
            String state = s.cars[i].state;
            if ((state.equals("parked") || state.equals("clamped")) && s.cars[i].place == place) {
                set += 1 << i;
            }
        }
        return set;
    }

    public int poundFree(int place) {
        if (!place(place)) {
            return INVALID;
        }
        if (s.pound[place] == 0) {
            return NOT_POSSIBLE;
        }
        int free = s.pound[place];
        for (Auto a : s.cars) {
            if (a.state.equals("pound") && a.place == place) {
                free--;
            }
        }
        return free;
    }

    public int truck() {
        return s.truck < 0 ? NOT_POSSIBLE : s.truck;
    }

    public int state(int car) {
        return car(car) ? Arrays.asList("away", "parked", "clamped", "pound").indexOf(s.cars[car].state) : INVALID;
    }

    public int placeOf(int car) {
        return state(car) == INVALID ? INVALID : state(car) == 0 ? WRONG_STATE : s.cars[car].place;
    }

    public int paidUntil(int car) {
        return state(car) == INVALID ? INVALID : state(car) != 1 ? WRONG_STATE : s.cars[car].paid;
    }

    public int overtime(int car) {
        return state(car) == INVALID ? INVALID : state(car) != 1 ? WRONG_STATE : overAt(s.cars[car], s.now);
    }

    public int ticketCount(int car) {
        return car(car) ? s.cars[car].tickets.size() : INVALID;
    }

    private Ticket ticket(int car, int index) {
        if (!car(car) || index < 0 || index >= s.cars[car].tickets.size()) {
            throw new NoSuchElementException();
        }
        return s.cars[car].tickets.get(index);
    }

    public int ticketAmount(int car, int index) {
        return ticket(car, index).amount;
    }

    public int ticketMinute(int car, int index) {
        return ticket(car, index).minute;
    }

    public boolean isTicketPaid(int car, int index) {
        try {
            return ticket(car, index).paid;
        } catch (NoSuchElementException e) {
            return false;
        }
    }

    public int due(int car) {
        if (!car(car)) {
            return INVALID;
        }
        int due = s.cars[car].fees - s.cars[car].credit;
        for (Ticket t : s.cars[car].tickets) {
            due += t.paid ? 0 : t.amount;
        }
        return Math.max(0, due);
    }

    public int credit(int car) {
        return car(car) ? s.cars[car].credit : INVALID;
    }

    public int fees(int car) {
        return car(car) ? s.cars[car].fees : INVALID;
    }

    public int clampedSince(int car) {
        return state(car) == INVALID ? INVALID : state(car) != 2 ? WRONG_STATE : s.cars[car].clamped;
    }

    public int towable() {
        int set = 0;
        for (int i = 0; i < 16; i++) {
            if (s.cars[i].state.equals("clamped") && s.now >= s.cars[i].clamped + 180) {
                set += 1 << i;
            }
        }
        return set;
    }

    public int logCount() {
        return s.log.size();
    }

    private int logField(int index, int field) {
        if (index < 0 || index >= s.log.size()) {
            throw new IndexOutOfBoundsException();
        }
        return s.log.get(index)[field];
    }

    public int logMinute(int index) {
        return logField(index, 0);
    }

    public int logKind(int index) {
        return logField(index, 1);
    }

    public int logCar(int index) {
        return logField(index, 2);
    }

    public int logAmount(int index) {
        return logField(index, 3);
    }

    public int daySum(int day, int kind) {
        if (day < 0 || day > 6 || !List.of(2, 4, 5, 6, 7, 8, 10).contains(kind)) {
            return INVALID;
        }
        int sum = 0;
        for (int[] e : s.log) {
            if (e[1] == kind && e[0] >= 1440 * day && e[0] <= 1440 * day + 1439) {
                sum += e[3];
            }
        }
        return sum;
    }

    public int owedInAll() {
        int sum = 0;
        for (int i = 0; i < 16; i++) {
            sum += due(i);
        }
        return sum;
    }

    private int priceOf(int place, int start, int minutes) {
        int sum = 0;
        for (int t = start; t < start + minutes; t++) {
            sum += rateAt(place, t);
        }
        return sum % 60 == 0 ? sum / 60 : sum / 60 + 1;
    }

    public int price(int place, int start, int minutes) {
        if (!place(place) || start < 0 || start > 10079 || minutes < 0 || minutes > 1440) {
            return INVALID;
        }
        return priceOf(place, start, minutes);
    }

    public int cheapestStart(int place, int minutes) {
        if (!place(place) || minutes < 1 || minutes > 600) {
            return INVALID;
        }
        int best = s.now;
        int bestPrice = priceOf(place, s.now, minutes);
        for (int start = s.now; start <= s.now + 1439; start++) {
            int price = priceOf(place, start, minutes);
            if (price < bestPrice) {
                bestPrice = price;
                best = start;
            }
        }
        return best;
    }

    public int minutesFor(int place, int cents) {
        if (!place(place) || cents < 0 || cents > 9999) {
            return INVALID;
        }
        return until(place, s.now, cents) - s.now;
    }

    public int ticketNow(int car) {
        return car(car) ? fine(s.cars[car], s.now) : INVALID;
    }

    private List<Integer> finesAt(int place, int when) {
        List<Integer> fines = new ArrayList<>();
        for (Auto a : s.cars) {
            if (a.state.equals("parked") && a.place == place && fine(a, when) > 0) {
                fines.add(fine(a, when));
            }
        }
        return fines;
    }

    private int sumOfFines(int place, int when) {
        int sum = 0;
        for (int fine : finesAt(place, when)) {
            sum += fine;
        }
        return sum;
    }

    public int ticketsAfter(int place, int minutes) {
        if (!place(place) || minutes < 0 || minutes > 600) {
            return INVALID;
        }
        return finesAt(place, s.now + minutes).size();
    }

    public int bestInspection(int place, int minutes) {
        if (!place(place) || minutes < 0 || minutes > 120) {
            return INVALID;
        }
        int best = 0;
        for (int m = 0; m <= minutes; m++) {
            if (sumOfFines(place, s.now + m) > sumOfFines(place, s.now + best)) {
                best = m;
            }
        }
        return best;
    }

    public int revenue(int zone, int day) {
        if (zone < 0 || zone > 3 || day < 0 || day > 6) {
            return INVALID;
        }
        int sum = 0;
        for (int i = 0; i < s.log.size(); i++) {
            int[] e = s.log.get(i);
            if (e[1] == 2 && e[0] / 1440 == day) {
                int k = i;
                while (s.log.get(k)[1] != 1 || s.log.get(k)[2] != e[2]) {
                    k--;
                }
                if (s.zone[s.log.get(k)[3]] == zone) {
                    sum += e[3];
                }
            }
        }
        return sum;
    }

    public int paidSoon(int place, int minutes) {
        if (!place(place) || minutes < 0 || minutes > 600) {
            return INVALID;
        }
        int set = 0;
        for (int i = 0; i < 16; i++) {
            Auto a = s.cars[i];
            if (a.state.equals("parked") && a.place == place && a.paid <= s.now + minutes) {
                set += 1 << i;
            }
        }
        return set;
    }

    public int busiestPlace(int day) {
        if (day < 0 || day > 6) {
            return INVALID;
        }
        int[] count = new int[10];
        for (int[] e : s.log) {
            if (e[1] == 1 && e[0] / 1440 == day) {
                count[e[3]]++;
            }
        }
        int best = 9;
        for (int p = 9; p >= 0; p--) {
            best = count[p] >= count[best] ? p : best;
        }
        return count[best] == 0 ? NOT_POSSIBLE : best;
    }

    public int tourLength() {
        return bestTour().size();
    }

    public int tourMinutes() {
        return minutes(bestTour());
    }

    private int[] trip(int index) {
        List<int[]> tour = bestTour();
        if (index < 0 || index >= tour.size()) {
            throw new IndexOutOfBoundsException();
        }
        return tour.get(index);
    }

    public int tourCar(int index) {
        return trip(index)[0];
    }

    public int tourPound(int index) {
        return trip(index)[1];
    }

    /** {value, set, length}; null if an argument is out of range. */
    private int[] bestPatrol(int start, int minutes) {
        if (!place(start) || minutes < 0 || minutes > 600) {
            return null;
        }
        int[] value = new int[s.places];
        int worth = 0;
        for (int p = 0; p < s.places; p++) {
            value[p] = sumOfFines(p, s.now);
            if (value[p] > 0 || s.places <= 6) {
                worth |= 1 << p;
            }
        }
        int[] best = {0, 0, 0};
        tryPatrols(start, 0, 0, 0, minutes, value, worth, waysFromAll(), best);
        return best;
    }

    private void tryPatrols(int at, int set, int sum, int length, int minutes, int[] value, int worth, int[][] ways,
            int[] best) {
        if (sum > best[0] || sum == best[0] && (length < best[2] || length == best[2] && set < best[1])) {
            best[0] = sum;
            best[1] = set;
            best[2] = length;
        }
        for (int p = 0; p < value.length; p++) {
            int longer = length + ways[at][p] + 5;
            if ((worth >> p & 1) == 1 && (set >> p & 1) == 0 && longer <= minutes) {
                tryPatrols(p, set | 1 << p, sum + value[p], longer, minutes, value, worth, ways, best);
            }
        }
    }

    public int patrolValue(int start, int minutes) {
        int[] best = bestPatrol(start, minutes);
        return best == null ? INVALID : best[0];
    }

    public int patrolSet(int start, int minutes) {
        int[] best = bestPatrol(start, minutes);
        return best == null ? INVALID : best[1];
    }

    public int patrolMinutes(int start, int minutes) {
        int[] best = bestPatrol(start, minutes);
        return best == null ? INVALID : best[2];
    }
}
