/** A town with a car in each state, a snapshot in slot 0, an error of load, and a description begun in the buffer. */
final class BusyTown {
    /** In the pound of place 0, which is full then. */
    static final int POUNDED = 0;
    /** At place 0, with unpaid tickets; it can be towed. */
    static final int CLAMPED = 1;
    /** Away, with a paid ticket and a credit of 500 cents. */
    static final int PAID_AND_AWAY = 2;
    /** Parked at place 1, paid until minute 380. */
    static final int OVERDUE = 3;
    /** Parked at place 0, paid until minute 560. */
    static final int PARKED = 4;
    /** Never parked. */
    static final int AWAY = 6;
    static final int MINUTE = 550;

    private BusyTown() {
    }

    /** In minute 550, after some 190 calls; place 2 is full. */
    static ParkingEnforcement make(Check check) {
        ParkingEnforcement x = check.town("places 4;road 0 1 4;zone 1 1;zone 2 2;zone 3 3;rate 0 0 24 60;"
                + "rate 1 0 24 90;stay 1 50;spaces 0 5;spaces 2 1;pound 0 1;pound 1 2");
        x.park(POUNDED, 0);
        x.park(CLAMPED, 0);
        x.park(PAID_AND_AWAY, 0);
        x.park(OVERDUE, 1);
        x.park(5, 2);
        x.advance(120);
        x.inspect(0);
        x.leave(PAID_AND_AWAY);
        x.payFines(PAID_AND_AWAY, 3500);
        x.advance(120);
        x.inspect(0);
        x.advance(120);
        x.inspect(0);
        x.pay(OVERDUE, 30);
        x.saveSnapshot(0);
        x.advance(180);
        x.towNext();
        x.park(PARKED, 0);
        x.pay(PARKED, 10);
        Check.append(x, "places 2;road 1 1");
        x.load();
        Check.append(x, "places 2;road 0 1 ");
        return x;
    }
}
