/** Fills a log with few calls, so that all that is asked then stays within an object's 512 calls. */
final class FullTown {
    static final int FULL = 340;
    static final int CARS = 14;
    /** Parked or away as the log needs it. */
    static final int FILLER = 15;
    /** Clamped, with unpaid tickets; it can be towed. */
    static final int CLAMPED = 0;
    /** Parked at place 1, overdue since 180 minutes. */
    static final int PARKED = 13;
    /** Never parked. */
    static final int AWAY = 14;

    private FullTown() {
    }

    /** Has 340 entries or so, and place 1 is full; some 180 calls. */
    static ParkingEnforcement withEntries(Check check, int count) {
        ParkingEnforcement x = check.town("places 3;spaces 0 8;spaces 1 7;rate 0 0 24 60;pound 0 1;road 0 1 3");
        for (int car = 0; car < CARS; car++) {
            x.park(car, car / 7);
        }
        clampAll(x);
        for (int car = 0; car < CARS; car++) {
            x.payFines(car, 26000);
        }
        clampAll(x);
        for (int car = 1; car < CARS; car++) {
            x.payFines(car, 99999);
        }
        x.advance(180);
        fill(x, count, FILLER, 2);
        check.due("the entries that are wanted", x.logCount(), count);
        return x;
    }

    /** Three tickets and a clamp for each parked car. */
    private static void clampAll(ParkingEnforcement x) {
        for (int round = 0; round < 3; round++) {
            x.advance(120);
            x.inspect(0);
            x.inspect(1);
        }
    }

    /** One call an entry. */
    static void fill(ParkingEnforcement x, int count, int car, int place) {
        boolean parked = x.state(car) == 1;
        for (int entries = x.logCount(); entries < count; entries++) {
            if (parked) {
                x.leave(car);
            } else {
                x.park(car, place);
            }
            parked = !parked;
        }
    }
}
