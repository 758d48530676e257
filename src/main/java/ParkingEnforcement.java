import java.util.Arrays;
import java.util.NoSuchElementException;

/** A simulator of parking enforcement in a town; its document says what each method answers. */
public final class ParkingEnforcement {
    public static final int INVALID = -1;
    public static final int WRONG_STATE = -2;
    public static final int NOT_POSSIBLE = -3;
    public static final int LIMIT = -4;

    private static final int CARS = 16;
    private static final int PLACES = 10;
    private static final int ZONES = 4;
    private static final int POUNDS = 2;
    private static final int SLOTS = 2;
    private static final int HOURS = 24;
    private static final int HOUR = 60;
    private static final int DAY = 1440;
    private static final int DAYS = 7;
    private static final int LAST_MINUTE = 10079;

    // Longer than any way, and small enough that a dozen of them add up without overflow.
    private static final int NO_WAY = 1000000;
    private static final int NOWHERE = -1;

    private static final int AWAY = 0;
    private static final int PARKED = 1;
    private static final int CLAMPED = 2;
    private static final int IN_POUND = 3;

    private static final int PARK = 1;
    private static final int METER = 2;
    private static final int LEAVE = 3;
    private static final int TICKET = 4;
    private static final int CLAMP = 5;
    private static final int PAYMENT = 6;
    private static final int TICKET_PAID = 7;
    private static final int FEES_PAID = 8;
    private static final int RELEASE = 9;
    private static final int TOW = 10;

    private static final int CLAMP_FEE = 8000;
    private static final int TOW_FEE = 15000;

    private final TownReader reader;
    private final World world;
    private final World[] slots;
    private final boolean[] slotUsed;
    private final TourPlanner tours;
    private final PatrolPlanner patrols;

    public ParkingEnforcement() {
        reader = new TownReader();
        world = new World();
        slots = new World[SLOTS];
        for (int i = 0; i < slots.length; i++) {
            slots[i] = new World();
        }
        slotUsed = new boolean[SLOTS];
        tours = new TourPlanner();
        patrols = new PatrolPlanner();
    }

    // Descriptions

    public int appendByte(int value) {
        if (!within(value, 0, 255) || reader.isBufferFull()) {
            return INVALID;
        }
        return reader.append(value);
    }

    public int load() {
        reader.readBuffer();
        if (reader.errorKind != 0) {
            return -100 - reader.errorAt;
        }
        world.begin(reader.town);
        return world.town.size;
    }

    public int loadError() {
        return reader.errorKind;
    }

    // What happens in the town

    public int advance(int minutes) throws IllegalArgumentException {
        if (!within(minutes, 0, DAY)) {
            throw new IllegalArgumentException("minutes is out of range");
        }
        if (world.minute + minutes > LAST_MINUTE) {
            return LIMIT;
        }
        world.minute += minutes;
        return world.minute;
    }

    public int park(int car, int place) {
        Car found = world.carOrNull(car);
        if (found == null || !world.town.has(place)) {
            return INVALID;
        }
        if (found.status != AWAY) {
            return WRONG_STATE;
        }
        if (world.spacesLeft(place) <= 0) {
            return NOT_POSSIBLE;
        }
        if (world.log.isFull()) {
            return LIMIT;
        }
        world.putCar(found, place);
        return world.spacesLeft(place);
    }

    public int pay(int car, int cents) {
        Car found = world.carOrNull(car);
        if (found == null || !within(cents, 1, 9999)) {
            return INVALID;
        }
        if (found.status != PARKED) {
            return WRONG_STATE;
        }
        int from = Math.max(found.paidTo, world.minute);
        int until = world.boughtUntil(found.place, from, cents);
        if (until <= from) {
            return NOT_POSSIBLE;
        }
        if (world.log.isFull()) {
            return LIMIT;
        }
        found.paidTo = until;
        world.note(METER, found, cents);
        return until;
    }

    public int leave(int car) {
        Car found = world.carOrNull(car);
        if (found == null) {
            return INVALID;
        }
        if (found.status != PARKED) {
            return WRONG_STATE;
        }
        if (world.log.isFull()) {
            return LIMIT;
        }
        int over = world.overtimeOf(found);
        found.status = AWAY;
        world.note(LEAVE, found, over);
        return over;
    }

    public int inspect(int place) {
        if (!world.town.has(place)) {
            return INVALID;
        }
        if (world.log.isFull()) {
            return LIMIT;
        }
        return world.writeTickets(place);
    }

    public int payFines(int car, int cents) {
        Car found = world.carOrNull(car);
        if (found == null || !within(cents, 1, 99999)) {
            return INVALID;
        }
        if (found.owesNothing()) {
            return NOT_POSSIBLE;
        }
        if (world.log.isFull()) {
            return LIMIT;
        }
        world.takeMoney(found, cents);
        return found.owed();
    }

    public int towNext() {
        tours.plan(world);
        Car towed = world.carOrNull(at(tours.tripCar, 0));
        if (tours.trips == 0 || towed == null) {
            return NOT_POSSIBLE;
        }
        int end = world.minute + at(tours.tripLength, 0);
        if (world.log.isFull() || end > LAST_MINUTE) {
            return LIMIT;
        }
        world.minute = end;
        world.bringToPound(towed, at(tours.tripPound, 0));
        return towed.number;
    }

    public int setRate(int zone, int hour, int cents) {
        Zone found = world.town.zoneOrNull(zone);
        if (found == null || !within(hour, 0, HOURS - 1) || !within(cents, 0, 999)) {
            return INVALID;
        }
        int previous = at(found.rates, hour);
        put(found.rates, hour, cents);
        return previous;
    }

    public int saveSnapshot(int index) {
        if (!within(index, 0, SLOTS - 1)) {
            return INVALID;
        }
        slots[index].copyFrom(world);
        slotUsed[index] = true;
        return world.minute;
    }

    public int restoreSnapshot(int index) {
        if (!within(index, 0, SLOTS - 1)) {
            return INVALID;
        }
        if (!slotUsed[index]) {
            return NOT_POSSIBLE;
        }
        world.copyFrom(slots[index]);
        return world.minute;
    }

    // The town

    public int now() {
        return world.minute;
    }

    public int placeCount() {
        return world.town.size;
    }

    public int distance(int from, int to) {
        if (!world.town.has(from) || !world.town.has(to)) {
            return INVALID;
        }
        int minutes = world.town.way(from, to);
        return minutes >= NO_WAY ? NOT_POSSIBLE : minutes;
    }

    public int nextOnWay(int from, int to) {
        if (!world.town.has(from) || !world.town.has(to) || from == to) {
            return INVALID;
        }
        int next = world.town.firstStep(from, to);
        return next == NOWHERE ? NOT_POSSIBLE : next;
    }

    public int zone(int place) {
        return world.town.has(place) ? at(world.town.zoneNumber, place) : INVALID;
    }

    public int rate(int zone, int hour) {
        Zone found = world.town.zoneOrNull(zone);
        if (found == null || !within(hour, 0, HOURS - 1)) {
            return INVALID;
        }
        return at(found.rates, hour);
    }

    public int longestStay(int zone) {
        Zone found = world.town.zoneOrNull(zone);
        return found == null ? INVALID : found.stayLimit;
    }

    public int freeSpaces(int place) {
        return world.town.has(place) ? world.spacesLeft(place) : INVALID;
    }

    public int carsAt(int place) {
        return world.town.has(place) ? world.carsOnSpaces(place) : INVALID;
    }

    public int poundFree(int place) {
        if (!world.town.has(place)) {
            return INVALID;
        }
        return world.town.hasPound(place) ? world.poundRoom(place) : NOT_POSSIBLE;
    }

    public int truck() {
        return world.truckPlace == NOWHERE ? NOT_POSSIBLE : world.truckPlace;
    }

    // A car

    public int state(int car) {
        Car found = world.carOrNull(car);
        return found == null ? INVALID : found.status;
    }

    public int placeOf(int car) {
        Car found = world.carOrNull(car);
        if (found == null) {
            return INVALID;
        }
        return found.status == AWAY ? WRONG_STATE : found.place;
    }

    public int paidUntil(int car) {
        Car found = world.carOrNull(car);
        if (found == null) {
            return INVALID;
        }
        return found.status == PARKED ? found.paidTo : WRONG_STATE;
    }

    public int overtime(int car) {
        Car found = world.carOrNull(car);
        if (found == null) {
            return INVALID;
        }
        return found.status == PARKED ? world.overtimeOf(found) : WRONG_STATE;
    }

    public int ticketCount(int car) {
        Car found = world.carOrNull(car);
        return found == null ? INVALID : found.tickets;
    }

    public int ticketAmount(int car, int index) throws NoSuchElementException {
        return ofTicket(world.log.amounts, car, index);
    }

    public int ticketMinute(int car, int index) throws NoSuchElementException {
        return ofTicket(world.log.minutes, car, index);
    }

    private int ofTicket(int[] row, int car, int index) throws NoSuchElementException {
        int entry = world.log.ticketEntry(car, index);
        if (!world.log.has(entry)) {
            throw new NoSuchElementException("there is no such ticket");
        }
        return at(row, entry);
    }

    public boolean isTicketPaid(int car, int index) {
        Car found = world.carOrNull(car);
        return found != null && index >= 0 && index < found.ticketsPaid;
    }

    public int due(int car) {
        Car found = world.carOrNull(car);
        return found == null ? INVALID : found.owed();
    }

    public int credit(int car) {
        Car found = world.carOrNull(car);
        return found == null ? INVALID : found.creditCents;
    }

    public int fees(int car) {
        Car found = world.carOrNull(car);
        return found == null ? INVALID : found.feeCents;
    }

    public int clampedSince(int car) {
        Car found = world.carOrNull(car);
        if (found == null) {
            return INVALID;
        }
        return found.status == CLAMPED ? found.clampMinute : WRONG_STATE;
    }

    public int towable() {
        return world.carsToTow();
    }

    // The log

    public int logCount() {
        return world.log.size;
    }

    public int logMinute(int index) throws IndexOutOfBoundsException {
        return logged(world.log.minutes, index);
    }

    public int logKind(int index) throws IndexOutOfBoundsException {
        return logged(world.log.kinds, index);
    }

    public int logCar(int index) throws IndexOutOfBoundsException {
        return logged(world.log.carNumbers, index);
    }

    public int logAmount(int index) throws IndexOutOfBoundsException {
        return logged(world.log.amounts, index);
    }

    private int logged(int[] row, int index) throws IndexOutOfBoundsException {
        if (!world.log.has(index)) {
            throw new IndexOutOfBoundsException("there is no such log entry");
        }
        return at(row, index);
    }

    public int daySum(int day, int kind) {
        if (!within(day, 0, DAYS - 1) || !hasDaySums(kind)) {
            return INVALID;
        }
        return world.log.sum(day, kind);
    }

    // Questions

    public int owedInAll() {
        return world.allOwed();
    }

    public int price(int place, int start, int minutes) {
        if (!world.town.has(place) || !within(start, 0, LAST_MINUTE) || !within(minutes, 0, DAY)) {
            return INVALID;
        }
        return fullCents(world.town.zoneAt(place).cost(start, minutes));
    }

    public int cheapestStart(int place, int minutes) {
        if (!world.town.has(place) || !within(minutes, 1, 600)) {
            return INVALID;
        }
        return world.town.zoneAt(place).cheapest(world.minute, minutes);
    }

    public int minutesFor(int place, int cents) {
        if (!world.town.has(place) || !within(cents, 0, 9999)) {
            return INVALID;
        }
        return world.boughtUntil(place, world.minute, cents) - world.minute;
    }

    public int ticketNow(int car) {
        Car found = world.carOrNull(car);
        return found == null ? INVALID : world.ticketFor(found, world.minute);
    }

    public int ticketsAfter(int place, int minutes) {
        if (!world.town.has(place) || !within(minutes, 0, 600)) {
            return INVALID;
        }
        return world.countTickets(place, world.minute + minutes);
    }

    public int bestInspection(int place, int minutes) {
        if (!world.town.has(place) || !within(minutes, 0, 120)) {
            return INVALID;
        }
        return world.bestWait(place, minutes);
    }

    public int revenue(int zone, int day) {
        if (!within(zone, 0, ZONES - 1) || !within(day, 0, DAYS - 1)) {
            return INVALID;
        }
        return world.log.meterSum(zone, day, world.town);
    }

    public int paidSoon(int place, int minutes) {
        if (!world.town.has(place) || !within(minutes, 0, 600)) {
            return INVALID;
        }
        return world.carsPaidTo(place, world.minute + minutes);
    }

    public int busiestPlace(int day) {
        if (!within(day, 0, DAYS - 1)) {
            return INVALID;
        }
        int place = world.log.mostParks(day);
        return place == NOWHERE ? NOT_POSSIBLE : place;
    }

    // Tours and patrols

    public int tourLength() {
        tours.plan(world);
        return tours.trips;
    }

    public int tourMinutes() {
        tours.plan(world);
        return tours.wholeLength();
    }

    public int tourCar(int index) throws IndexOutOfBoundsException {
        tours.plan(world);
        return ofTrip(tours.tripCar, index);
    }

    public int tourPound(int index) throws IndexOutOfBoundsException {
        tours.plan(world);
        return ofTrip(tours.tripPound, index);
    }

    private int ofTrip(int[] row, int index) throws IndexOutOfBoundsException {
        if (!within(index, 0, tours.trips - 1)) {
            throw new IndexOutOfBoundsException("there is no such trip");
        }
        return at(row, index);
    }

    public int patrolValue(int start, int minutes) {
        if (!world.town.has(start) || !within(minutes, 0, 600)) {
            return INVALID;
        }
        patrols.plan(world, start, minutes);
        return patrols.bestValue;
    }

    public int patrolSet(int start, int minutes) {
        if (!world.town.has(start) || !within(minutes, 0, 600)) {
            return INVALID;
        }
        patrols.plan(world, start, minutes);
        return patrols.bestSet;
    }

    public int patrolMinutes(int start, int minutes) {
        if (!world.town.has(start) || !within(minutes, 0, 600)) {
            return INVALID;
        }
        patrols.plan(world, start, minutes);
        return patrols.bestLength;
    }

    // Small helpers for all classes of this file

    private static boolean within(int value, int least, int most) {
        return value >= least && value <= most;
    }

    /** The element of a row; 0 outside the row, so that no index can make the machine throw. */
    private static int at(int[] row, int index) {
        return index >= 0 && index < row.length ? row[index] : 0;
    }

    private static void put(int[] row, int index, int value) {
        if (index >= 0 && index < row.length) {
            row[index] = value;
        }
    }

    /** Copies a row onto one of the same length. */
    private static void copyRow(int[] from, int[] to) {
        System.arraycopy(from, 0, to, 0, Math.min(from.length, to.length));
    }

    private static boolean contains(int set, int member) {
        return (set >> member & 1) != 0;
    }

    /** Sixtieths of a cent in whole cents, rounded up. */
    private static int fullCents(int sixtieths) {
        return (sixtieths + 59) / 60;
    }

    private static boolean hasDaySums(int kind) {
        switch (kind) {
            case METER:
            case TICKET:
            case CLAMP:
            case PAYMENT:
            case TICKET_PAID:
            case FEES_PAID:
            case TOW:
                return true;
            default:
                return false;
        }
    }

    /** A zone: its rate for each hour of the day, and its longest stay. */
    private static final class Zone {
        private static final int USUAL_STAY = 120;

        final int[] rates = new int[HOURS];
        int stayLimit = USUAL_STAY;

        void clear() {
            Arrays.fill(rates, 0);
            stayLimit = USUAL_STAY;
        }

        void copyFrom(Zone other) {
            copyRow(other.rates, rates);
            stayLimit = other.stayLimit;
        }

        void setRates(int fromHour, int toHour, int cents) {
            for (int hour = fromHour; hour < toHour; hour++) {
                put(rates, hour, cents);
            }
        }

        int rateAt(int minute) {
            return at(rates, minute / HOUR % HOURS);
        }

        /** What the minutes cost, in sixtieths of a cent. */
        int cost(int start, int minutes) {
            int sum = 0;
            for (int i = 0; i < minutes; i++) {
                sum += rateAt(start + i);
            }
            return sum;
        }

        /** The minute until which the money lasts, at most the limit. */
        int lastsUntil(int from, int limit, int cents) {
            int left = cents * 60;
            int minute = from;
            while (minute < limit && rateAt(minute) <= left) {
                left -= rateAt(minute);
                minute++;
            }
            return minute;
        }

        int cheapest(int first, int minutes) {
            int sum = cost(first, minutes);
            int bestStart = first;
            int bestPrice = fullCents(sum);
            for (int start = first + 1; start < first + DAY; start++) {
                sum += rateAt(start - 1 + minutes) - rateAt(start - 1);
                if (fullCents(sum) < bestPrice) {
                    bestPrice = fullCents(sum);
                    bestStart = start;
                }
            }
            return bestStart;
        }

        /** How many of these minutes have a rate above 0. */
        int chargedMinutes(int from, int to) {
            return from < to ? chargedBefore(to) - chargedBefore(from) : 0;
        }

        private int chargedBefore(int minute) {
            int dayMinute = minute % DAY;
            int inWholeDay = 0;
            int inLastDay = 0;
            for (int hour = 0; hour < rates.length; hour++) {
                if (rates[hour] > 0) {
                    inWholeDay += HOUR;
                    inLastDay += Math.max(0, Math.min(HOUR, dayMinute - hour * HOUR));
                }
            }
            return minute / DAY * inWholeDay + inLastDay;
        }
    }

    /** What a description says, and the ways that follow from its roads. */
    private static final class Town {
        private static final int USUAL_SPACES = 2;

        int size;
        int poundCount;
        int firstPound;
        final int[] zoneNumber = new int[PLACES];
        final int[] spaces = new int[PLACES];
        final int[] poundSize = new int[PLACES];
        final int[] roads = new int[PLACES * PLACES];
        final int[] ways = new int[PLACES * PLACES];
        final Zone[] zones = new Zone[ZONES];

        Town() {
            for (int i = 0; i < zones.length; i++) {
                zones[i] = new Zone();
            }
            clear();
        }

        /** Makes it the town of one place that has nothing described. */
        void clear() {
            size = 1;
            poundCount = 0;
            firstPound = NOWHERE;
            Arrays.fill(zoneNumber, 0);
            Arrays.fill(spaces, USUAL_SPACES);
            Arrays.fill(poundSize, 0);
            Arrays.fill(roads, NO_WAY);
            for (Zone zone : zones) {
                zone.clear();
            }
            findWays();
        }

        void copyFrom(Town other) {
            size = other.size;
            poundCount = other.poundCount;
            firstPound = other.firstPound;
            copyRow(other.zoneNumber, zoneNumber);
            copyRow(other.spaces, spaces);
            copyRow(other.poundSize, poundSize);
            copyRow(other.roads, roads);
            copyRow(other.ways, ways);
            for (int i = 0; i < zones.length; i++) {
                zones[i].copyFrom(other.zones[i]);
            }
        }

        boolean has(int place) {
            return place >= 0 && place < size;
        }

        Zone zoneOrNull(int number) {
            return number >= 0 && number < zones.length ? zones[number] : null;
        }

        Zone zoneAt(int place) {
            Zone found = zoneOrNull(at(zoneNumber, place));
            return found == null ? zones[0] : found;
        }

        boolean hasPound(int place) {
            return at(poundSize, place) > 0;
        }

        void setPound(int place, int cars) {
            if (!hasPound(place)) {
                poundCount++;
                if (firstPound == NOWHERE) {
                    firstPound = place;
                }
            }
            put(poundSize, place, cars);
        }

        /** Of two roads between the same places only the shorter one can lie on a shortest way. */
        void addRoad(int from, int to, int minutes) {
            int shorter = Math.min(minutes, at(roads, from * PLACES + to));
            put(roads, from * PLACES + to, shorter);
            put(roads, to * PLACES + from, shorter);
        }

        int way(int from, int to) {
            return at(ways, from * PLACES + to);
        }

        void findWays() {
            copyRow(roads, ways);
            for (int place = 0; place < PLACES; place++) {
                put(ways, place * PLACES + place, 0);
            }
            for (int over = 0; over < PLACES; over++) {
                for (int from = 0; from < PLACES; from++) {
                    for (int to = 0; to < PLACES; to++) {
                        int detour = way(from, over) + way(over, to);
                        if (detour < way(from, to)) {
                            put(ways, from * PLACES + to, detour);
                        }
                    }
                }
            }
        }

        int firstStep(int from, int to) {
            int whole = way(from, to);
            for (int next = 0; next < size && whole < NO_WAY; next++) {
                if (at(roads, from * PLACES + next) + way(next, to) == whole) {
                    return next;
                }
            }
            return NOWHERE;
        }
    }

    /** The input buffer, and the reading of the description in it. */
    private static final class TownReader {
        private static final int ROOM = 600;
        private static final int MISPLACED = 1;
        private static final int OUT_OF_RANGE = 2;
        private static final int NOT_ALLOWED = 3;
        // Above every range, and far from overflow when it is multiplied by ten.
        private static final int HUGE = 1000000;

        private static final int UNKNOWN_WORD = 0;
        private static final int PLACES_WORD = 1;
        private static final int ROAD_WORD = 2;
        private static final int ZONE_WORD = 3;
        private static final int RATE_WORD = 4;
        private static final int STAY_WORD = 5;
        private static final int SPACES_WORD = 6;
        private static final int POUND_WORD = 7;

        final Town town = new Town();
        final int[] bytes = new int[ROOM];
        int length;
        int position;
        int numberAt;
        int wordAt;
        int errorKind;
        int errorAt;

        boolean isBufferFull() {
            return length >= ROOM;
        }

        int append(int value) {
            put(bytes, length, value);
            length++;
            return length;
        }

        /** Reads the town, or the first error, and empties the buffer. */
        void readBuffer() {
            town.clear();
            position = 0;
            errorKind = 0;
            errorAt = 0;
            readPlaces();
            skipSpaces();
            for (int i = 0; i < ROOM && errorKind == 0 && position < length; i++) {
                readSemicolon();
                readStatement();
                skipSpaces();
            }
            town.findWays();
            length = 0;
        }

        private void fail(int kind, int where) {
            if (errorKind == 0) {
                errorKind = kind;
                errorAt = where;
            }
        }

        private void readPlaces() {
            if (readWord() != PLACES_WORD) {
                fail(MISPLACED, wordAt);
            }
            int count = readNumber(1, PLACES);
            if (errorKind == 0) {
                town.size = count;
            }
        }

        private void readSemicolon() {
            if (nextByte() == ';') {
                position++;
            } else {
                fail(MISPLACED, position);
            }
        }

        private void readStatement() {
            if (errorKind != 0) {
                return;
            }
            switch (readWord()) {
                case ROAD_WORD:
                    readRoad();
                    break;
                case ZONE_WORD:
                    readZone();
                    break;
                case RATE_WORD:
                    readRate();
                    break;
                case STAY_WORD:
                    readStay();
                    break;
                case SPACES_WORD:
                    readSpaces();
                    break;
                case POUND_WORD:
                    readPound();
                    break;
                default:
                    fail(MISPLACED, wordAt);
                    break;
            }
        }

        private void readRoad() {
            int from = readPlace();
            int to = readPlace();
            if (from == to) {
                fail(NOT_ALLOWED, numberAt);
            }
            int minutes = readNumber(1, 99);
            if (errorKind == 0) {
                town.addRoad(from, to, minutes);
            }
        }

        private void readZone() {
            int place = readPlace();
            int number = readNumber(0, ZONES - 1);
            if (errorKind == 0) {
                put(town.zoneNumber, place, number);
            }
        }

        private void readRate() {
            Zone changed = town.zoneOrNull(readNumber(0, ZONES - 1));
            int from = readNumber(0, HOURS - 1);
            int to = readNumber(from + 1, HOURS);
            int cents = readNumber(0, 999);
            if (errorKind == 0 && changed != null) {
                changed.setRates(from, to, cents);
            }
        }

        private void readStay() {
            Zone changed = town.zoneOrNull(readNumber(0, ZONES - 1));
            int minutes = readNumber(10, 600);
            if (errorKind == 0 && changed != null) {
                changed.stayLimit = minutes;
            }
        }

        private void readSpaces() {
            int place = readPlace();
            int count = readNumber(0, 8);
            if (errorKind == 0) {
                put(town.spaces, place, count);
            }
        }

        private void readPound() {
            int place = readPlace();
            if (!town.hasPound(place) && town.poundCount >= POUNDS) {
                fail(NOT_ALLOWED, numberAt);
            }
            int cars = readNumber(1, 6);
            if (errorKind == 0) {
                town.setPound(place, cars);
            }
        }

        private int readPlace() {
            return readNumber(0, town.size - 1);
        }

        /** The number that stands next; -1 behind an error, which stays the first one. */
        private int readNumber(int least, int most) {
            skipSpaces();
            if (!isDigit(nextByte())) {
                fail(MISPLACED, position);
            }
            if (errorKind != 0) {
                return -1;
            }
            numberAt = position;
            int number = 0;
            while (position < length && isDigit(nextByte())) {
                number = Math.min(HUGE, number * 10 + nextByte() - '0');
                position++;
            }
            if (!within(number, least, most)) {
                fail(OUT_OF_RANGE, numberAt);
                return -1;
            }
            return number;
        }

        /** The keyword that stands next; an empty run of letters is unknown too. */
        private int readWord() {
            skipSpaces();
            wordAt = position;
            while (position < length && within(nextByte(), 'a', 'z')) {
                position++;
            }
            for (int word = PLACES_WORD; word <= POUND_WORD; word++) {
                if (isWordRead(spelling(word))) {
                    return word;
                }
            }
            return UNKNOWN_WORD;
        }

        private static String spelling(int word) {
            switch (word) {
                case PLACES_WORD:
                    return "places";
                case ROAD_WORD:
                    return "road";
                case ZONE_WORD:
                    return "zone";
                case RATE_WORD:
                    return "rate";
                case STAY_WORD:
                    return "stay";
                case SPACES_WORD:
                    return "spaces";
                default:
                    return "pound";
            }
        }

        private boolean isWordRead(String word) {
            if (position - wordAt != word.length()) {
                return false;
            }
            for (int i = 0; i < word.length(); i++) {
                if (at(bytes, wordAt + i) != word.charAt(i)) {
                    return false;
                }
            }
            return true;
        }

        private void skipSpaces() {
            while (position < length && nextByte() == ' ') {
                position++;
            }
        }

        private static boolean isDigit(int value) {
            return value >= '0' && value <= '9';
        }

        /** The byte that stands next; -1 at the end. */
        private int nextByte() {
            return position >= 0 && position < length && position < bytes.length ? bytes[position] : -1;
        }
    }

    /** A car. Its tickets themselves are the TICKET entries of the log; the oldest ones are paid first. */
    private static final class Car {
        final int number;
        int status;
        int place;
        int paidTo;
        int clampMinute;
        int tickets;
        int ticketsPaid;
        int latestTicket;
        int ticketCents;
        int feeCents;
        int creditCents;

        Car(int number) {
            this.number = number;
        }

        void clear() {
            status = AWAY;
            place = 0;
            paidTo = 0;
            clampMinute = 0;
            tickets = 0;
            ticketsPaid = 0;
            latestTicket = 0;
            ticketCents = 0;
            feeCents = 0;
            creditCents = 0;
        }

        void copyFrom(Car other) {
            status = other.status;
            place = other.place;
            paidTo = other.paidTo;
            clampMinute = other.clampMinute;
            tickets = other.tickets;
            ticketsPaid = other.ticketsPaid;
            latestTicket = other.latestTicket;
            ticketCents = other.ticketCents;
            feeCents = other.feeCents;
            creditCents = other.creditCents;
        }

        boolean isAt(int where, int wanted) {
            return status == wanted && place == where;
        }

        boolean takesSpaceAt(int where) {
            return isAt(where, PARKED) || isAt(where, CLAMPED);
        }

        boolean canBeTowedAt(int minute) {
            return status == CLAMPED && clampMinute <= minute - 180;
        }

        int unpaidTickets() {
            return tickets - ticketsPaid;
        }

        boolean owesNothing() {
            return unpaidTickets() == 0 && feeCents == 0;
        }

        int owed() {
            return Math.max(0, ticketCents + feeCents - creditCents);
        }

        boolean hadTicketShortlyBefore(int minute) {
            return tickets > 0 && latestTicket > minute - 120;
        }

        /** The amount of a ticket for so much overtime. */
        int fineFor(int over) {
            int base = over <= 30 ? 1500 : over <= 120 ? 3000 : 6000;
            return base + 500 * Math.min(5, unpaidTickets());
        }
    }

    /** The log, with rows as long as the most entries that any run can write. */
    private static final class Log {
        private static final int ROOM = 400;
        private static final int FULL = 340;

        int size;
        final int[] minutes = new int[ROOM];
        final int[] kinds = new int[ROOM];
        final int[] carNumbers = new int[ROOM];
        final int[] amounts = new int[ROOM];
        // Used within single calls alone, so copyFrom leaves them out.
        final int[] parkPlace = new int[CARS];
        final int[] parkCount = new int[PLACES];

        void copyFrom(Log other) {
            size = other.size;
            copyRow(other.minutes, minutes);
            copyRow(other.kinds, kinds);
            copyRow(other.carNumbers, carNumbers);
            copyRow(other.amounts, amounts);
        }

        boolean isFull() {
            return size >= FULL;
        }

        boolean has(int index) {
            return index >= 0 && index < size;
        }

        void add(int minute, int kind, int car, int amount) {
            if (size < ROOM) {
                put(minutes, size, minute);
                put(kinds, size, kind);
                put(carNumbers, size, car);
                put(amounts, size, amount);
                size++;
            }
        }

        private boolean isOn(int entry, int day, int kind) {
            return at(kinds, entry) == kind && at(minutes, entry) / DAY == day;
        }

        int sum(int day, int kind) {
            int sum = 0;
            for (int i = 0; i < size; i++) {
                if (isOn(i, day, kind)) {
                    sum += at(amounts, i);
                }
            }
            return sum;
        }

        /** Where the ticket of the car with this index stands; NOWHERE if it has none. */
        int ticketEntry(int car, int index) {
            int before = 0;
            for (int i = 0; i < size; i++) {
                if (at(kinds, i) == TICKET && at(carNumbers, i) == car) {
                    if (before == index) {
                        return i;
                    }
                    before++;
                }
            }
            return NOWHERE;
        }

        int meterSum(int zone, int day, Town town) {
            int sum = 0;
            for (int i = 0; i < size; i++) {
                int car = at(carNumbers, i);
                if (at(kinds, i) == PARK) {
                    put(parkPlace, car, at(amounts, i));
                }
                if (isOn(i, day, METER) && at(town.zoneNumber, at(parkPlace, car)) == zone) {
                    sum += at(amounts, i);
                }
            }
            return sum;
        }

        int mostParks(int day) {
            Arrays.fill(parkCount, 0);
            for (int i = 0; i < size; i++) {
                if (isOn(i, day, PARK)) {
                    int place = at(amounts, i);
                    put(parkCount, place, at(parkCount, place) + 1);
                }
            }
            int best = NOWHERE;
            int most = 0;
            for (int place = 0; place < parkCount.length; place++) {
                if (parkCount[place] > most) {
                    most = parkCount[place];
                    best = place;
                }
            }
            return best;
        }
    }

    /** A town and its state: all that a snapshot contains. */
    private static final class World {
        final Town town = new Town();
        final Car[] cars = new Car[CARS];
        final Log log = new Log();
        int minute;
        int truckPlace = NOWHERE;

        World() {
            for (int i = 0; i < cars.length; i++) {
                cars[i] = new Car(i);
            }
        }

        /** Takes over a town that was described, with nothing happened yet. */
        void begin(Town described) {
            town.copyFrom(described);
            for (Car car : cars) {
                car.clear();
            }
            log.size = 0;
            minute = 0;
            truckPlace = town.firstPound;
        }

        void copyFrom(World other) {
            town.copyFrom(other.town);
            for (int i = 0; i < cars.length; i++) {
                cars[i].copyFrom(other.cars[i]);
            }
            log.copyFrom(other.log);
            minute = other.minute;
            truckPlace = other.truckPlace;
        }

        Car carOrNull(int number) {
            return number >= 0 && number < cars.length ? cars[number] : null;
        }

        void note(int kind, Car car, int amount) {
            log.add(minute, kind, car.number, amount);
        }

        int carsOnSpaces(int place) {
            int set = 0;
            for (Car car : cars) {
                if (car.takesSpaceAt(place)) {
                    set |= 1 << car.number;
                }
            }
            return set;
        }

        int spacesLeft(int place) {
            return at(town.spaces, place) - Integer.bitCount(carsOnSpaces(place));
        }

        int poundRoom(int place) {
            int room = at(town.poundSize, place);
            for (Car car : cars) {
                if (car.isAt(place, IN_POUND)) {
                    room--;
                }
            }
            return room;
        }

        void putCar(Car car, int place) {
            car.status = PARKED;
            car.place = place;
            car.paidTo = minute;
            note(PARK, car, place);
        }

        int boughtUntil(int place, int from, int cents) {
            Zone zone = town.zoneAt(place);
            return zone.lastsUntil(from, minute + zone.stayLimit, cents);
        }

        int overtimeOf(Car car) {
            return town.zoneAt(car.place).chargedMinutes(car.paidTo, minute);
        }

        int carsPaidTo(int place, int end) {
            int set = 0;
            for (Car car : cars) {
                if (car.isAt(place, PARKED) && car.paidTo <= end) {
                    set |= 1 << car.number;
                }
            }
            return set;
        }

        /** The amount of the ticket that an inspection writes at a minute, if the car stays; 0 for none. */
        int ticketFor(Car car, int when) {
            if (car.status != PARKED || car.hadTicketShortlyBefore(when)) {
                return 0;
            }
            int over = town.zoneAt(car.place).chargedMinutes(car.paidTo, when);
            return over > 0 ? car.fineFor(over) : 0;
        }

        int countTickets(int place, int when) {
            int count = 0;
            for (Car car : cars) {
                if (car.isAt(place, PARKED) && ticketFor(car, when) > 0) {
                    count++;
                }
            }
            return count;
        }

        int ticketSum(int place, int when) {
            int sum = 0;
            for (Car car : cars) {
                if (car.isAt(place, PARKED)) {
                    sum += ticketFor(car, when);
                }
            }
            return sum;
        }

        int bestWait(int place, int most) {
            int best = 0;
            int bestSum = 0;
            for (int wait = 0; wait <= most; wait++) {
                int sum = ticketSum(place, minute + wait);
                if (sum > bestSum) {
                    bestSum = sum;
                    best = wait;
                }
            }
            return best;
        }

        int writeTickets(int place) {
            int written = 0;
            for (Car car : cars) {
                int amount = car.isAt(place, PARKED) ? ticketFor(car, minute) : 0;
                if (amount > 0) {
                    writeTicket(car, amount);
                    written++;
                }
            }
            return written;
        }

        private void writeTicket(Car car, int amount) {
            car.tickets++;
            car.latestTicket = minute;
            car.ticketCents += amount;
            note(TICKET, car, amount);
            if (car.unpaidTickets() >= 3) {
                car.status = CLAMPED;
                car.clampMinute = minute;
                car.feeCents += CLAMP_FEE;
                note(CLAMP, car, CLAMP_FEE);
            }
        }

        void takeMoney(Car car, int cents) {
            car.creditCents += cents;
            note(PAYMENT, car, cents);
            payTickets(car);
            payFees(car);
            if (car.owesNothing()) {
                release(car);
            }
        }

        private void payTickets(Car car) {
            boolean enough = true;
            while (enough && car.ticketsPaid < car.tickets) {
                int amount = at(log.amounts, log.ticketEntry(car.number, car.ticketsPaid));
                enough = car.creditCents >= amount;
                if (enough) {
                    car.creditCents -= amount;
                    car.ticketCents -= amount;
                    car.ticketsPaid++;
                    note(TICKET_PAID, car, amount);
                }
            }
        }

        private void payFees(Car car) {
            int amount = car.feeCents;
            if (car.unpaidTickets() == 0 && amount > 0 && car.creditCents >= amount) {
                car.creditCents -= amount;
                car.feeCents = 0;
                note(FEES_PAID, car, amount);
            }
        }

        private void release(Car car) {
            if (car.status == CLAMPED) {
                car.status = PARKED;
                car.paidTo = minute;
                note(RELEASE, car, car.place);
            } else if (car.status == IN_POUND) {
                car.status = AWAY;
                note(RELEASE, car, car.place);
            }
        }

        int allOwed() {
            int sum = 0;
            for (Car car : cars) {
                sum += car.owed();
            }
            return sum;
        }

        int carsToTow() {
            int set = 0;
            for (Car car : cars) {
                if (car.canBeTowedAt(minute)) {
                    set |= 1 << car.number;
                }
            }
            return set;
        }

        void bringToPound(Car car, int place) {
            car.status = IN_POUND;
            car.place = place;
            car.feeCents += TOW_FEE;
            truckPlace = place;
            note(TOW, car, TOW_FEE);
        }
    }

    /**
     * Finds the best tour. For each set of candidates that are towed already, number of them in the first
     * pound, and pound where the truck is, it keeps how good the rest of the tour can be.
     */
    private static final class TourPlanner {
        private static final int MOST_TRIPS = 6;
        private static final int HOOKING = 10;
        // Worth more than any tour is long, so that the number of cars counts before the length.
        private static final int TRIP_WORTH = 100000;

        final int[] candidates = new int[MOST_TRIPS];
        final int[] carPlace = new int[MOST_TRIPS];
        final int[] poundPlace = new int[POUNDS];
        final int[] room = new int[POUNDS];
        final int[] lengths = new int[POUNDS * MOST_TRIPS * POUNDS];
        final int[] worth = new int[(1 << MOST_TRIPS) * (MOST_TRIPS + 1) * POUNDS];
        final int[] tripCar = new int[MOST_TRIPS];
        final int[] tripPound = new int[MOST_TRIPS];
        final int[] tripLength = new int[MOST_TRIPS];
        int candidateCount;
        int pounds;
        int trips;

        void plan(World world) {
            chooseCandidates(world);
            choosePounds(world);
            measureTrips(world.town);
            weighStates();
            takeBestTrips(world.truckPlace);
        }

        int wholeLength() {
            int sum = 0;
            for (int i = 0; i < trips; i++) {
                sum += at(tripLength, i);
            }
            return sum;
        }

        private void chooseCandidates(World world) {
            int all = world.carsToTow();
            candidateCount = 0;
            for (Car car : world.cars) {
                if (contains(all, car.number) && countClampedBefore(car, all, world) < MOST_TRIPS) {
                    put(candidates, candidateCount, car.number);
                    put(carPlace, candidateCount, car.place);
                    candidateCount++;
                }
            }
        }

        private int countClampedBefore(Car car, int all, World world) {
            int count = 0;
            for (Car other : world.cars) {
                boolean earlier = other.clampMinute < car.clampMinute
                        || other.clampMinute == car.clampMinute && other.number < car.number;
                if (contains(all, other.number) && earlier) {
                    count++;
                }
            }
            return count;
        }

        private void choosePounds(World world) {
            pounds = 0;
            for (int place = 0; place < world.town.size; place++) {
                if (world.town.hasPound(place) && pounds < POUNDS) {
                    put(poundPlace, pounds, place);
                    put(room, pounds, world.poundRoom(place));
                    pounds++;
                }
            }
        }

        private void measureTrips(Town town) {
            for (int from = 0; from < pounds; from++) {
                for (int i = 0; i < candidateCount; i++) {
                    for (int to = 0; to < pounds; to++) {
                        int place = at(carPlace, i);
                        int ways = town.way(at(poundPlace, from), place) + town.way(place, at(poundPlace, to));
                        put(lengths, tripIndex(from, i, to), ways + HOOKING);
                    }
                }
            }
        }

        private static int tripIndex(int from, int candidate, int to) {
            return (from * MOST_TRIPS + candidate) * POUNDS + to;
        }

        private static int stateIndex(int towed, int inFirst, int truckAt) {
            return (towed * (MOST_TRIPS + 1) + inFirst) * POUNDS + truckAt;
        }

        /** From the states with the most cars towed back to the first one, as each rests on later ones. */
        private void weighStates() {
            for (int towed = (1 << candidateCount) - 1; towed >= 0; towed--) {
                for (int inFirst = 0; inFirst <= Integer.bitCount(towed); inFirst++) {
                    for (int truckAt = 0; truckAt < pounds; truckAt++) {
                        put(worth, stateIndex(towed, inFirst, truckAt), bestWorth(towed, inFirst, truckAt));
                    }
                }
            }
        }

        private int bestWorth(int towed, int inFirst, int truckAt) {
            int best = 0;
            for (int i = 0; i < candidateCount; i++) {
                for (int to = 0; to < pounds; to++) {
                    best = Math.max(best, worthOver(towed, inFirst, truckAt, i, to));
                }
            }
            return best;
        }

        /** The worth of a state if this trip comes next; 0 if the trip is impossible. */
        private int worthOver(int towed, int inFirst, int truckAt, int candidate, int to) {
            int inPound = to == 0 ? inFirst : Integer.bitCount(towed) - inFirst;
            int length = at(lengths, tripIndex(truckAt, candidate, to));
            if (contains(towed, candidate) || inPound >= at(room, to) || length >= NO_WAY) {
                return 0;
            }
            int inFirstThen = to == 0 ? inFirst + 1 : inFirst;
            return TRIP_WORTH - length + at(worth, stateIndex(towed | 1 << candidate, inFirstThen, to));
        }

        private void takeBestTrips(int truckPlace) {
            trips = 0;
            int towed = 0;
            int inFirst = 0;
            int truckAt = pounds == POUNDS && at(poundPlace, 1) == truckPlace ? 1 : 0;
            int trip = smallestBestTrip(towed, inFirst, truckAt);
            for (int i = 0; i < candidateCount && trip != NOWHERE; i++) {
                int candidate = trip / POUNDS;
                int to = trip % POUNDS;
                addTrip(truckAt, candidate, to);
                towed |= 1 << candidate;
                inFirst += to == 0 ? 1 : 0;
                truckAt = to;
                trip = smallestBestTrip(towed, inFirst, truckAt);
            }
        }

        /** Candidates and pounds stand in the order of their numbers, so the first trip found is the smallest. */
        private int smallestBestTrip(int towed, int inFirst, int truckAt) {
            int best = bestWorth(towed, inFirst, truckAt);
            for (int i = 0; i < candidateCount && best > 0; i++) {
                for (int to = 0; to < pounds; to++) {
                    if (worthOver(towed, inFirst, truckAt, i, to) == best) {
                        return i * POUNDS + to;
                    }
                }
            }
            return NOWHERE;
        }

        private void addTrip(int from, int candidate, int to) {
            put(tripCar, trips, at(candidates, candidate));
            put(tripPound, trips, at(poundPlace, to));
            put(tripLength, trips, at(lengths, tripIndex(from, candidate, to)));
            trips++;
        }
    }

    /** Finds the best patrol, by the shortest patrol for each set of places and last place. */
    private static final class PatrolPlanner {
        private static final int INSPECTION = 5;

        final int[] values = new int[PLACES];
        final int[] shortest = new int[(1 << PLACES) * PLACES];
        int start;
        int bestValue;
        int bestLength;
        int bestSet;

        void plan(World world, int startPlace, int minutes) {
            start = startPlace;
            bestValue = 0;
            bestLength = 0;
            bestSet = 0;
            int valuable = findValues(world);
            for (int set = 1; set < 1 << world.town.size; set++) {
                if ((set & ~valuable) == 0) {
                    considerSet(set, world.town, minutes);
                }
            }
        }

        /** The places with a value above 0: any other one only makes a patrol longer. */
        private int findValues(World world) {
            int valuable = 0;
            for (int place = 0; place < world.town.size; place++) {
                int value = world.ticketSum(place, world.minute);
                put(values, place, value);
                if (value > 0) {
                    valuable |= 1 << place;
                }
            }
            return valuable;
        }

        private void considerSet(int set, Town town, int minutes) {
            int value = 0;
            int length = NO_WAY;
            for (int last = 0; last < town.size; last++) {
                if (contains(set, last)) {
                    int ending = lengthEndingAt(set, last, town);
                    put(shortest, set * PLACES + last, ending);
                    length = Math.min(length, ending);
                    value += at(values, last);
                }
            }
            boolean better = value > bestValue || value == bestValue && length < bestLength;
            if (length <= minutes && better) {
                bestValue = value;
                bestLength = length;
                bestSet = set;
            }
        }

        private int lengthEndingAt(int set, int last, Town town) {
            int before = set & ~(1 << last);
            int best = before == 0 ? town.way(start, last) : NO_WAY;
            for (int place = 0; place < town.size; place++) {
                if (contains(before, place)) {
                    best = Math.min(best, at(shortest, before * PLACES + place) + town.way(place, last));
                }
            }
            return best + INSPECTION;
        }
    }
}
