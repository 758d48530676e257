/** Promises 10, 34 to 36 and 45: payments, credit and what is due. */
public final class PaymentsTest {
    private static final Check CHECK = new Check();

    private static ParkingEnforcement chargedTown() {
        return CHECK.town("places 2;spaces 0 8;rate 0 0 24 60;pound 1 2;road 0 1 7");
    }

    /** Three tickets of 1500, 6500 and 7000 cents, and a clamp, for some cars at place 0. */
    private static void clamp(ParkingEnforcement x, int... cars) {
        for (int car : cars) {
            x.park(car, 0);
        }
        x.advance(30);
        x.inspect(0);
        x.advance(120);
        x.inspect(0);
        x.advance(120);
        x.inspect(0);
    }

    private static void entries(ParkingEnforcement x, int from, int car, int[][] due) {
        CHECK.due("P10: entries", x.logCount() - from, due.length);
        for (int i = 0; i < due.length; i++) {
            CHECK.due("P10: minute of entry " + i, x.logMinute(from + i), x.now());
            CHECK.due("P10: kind of entry " + i, x.logKind(from + i), due[i][0]);
            CHECK.due("P10: car of entry " + i, x.logCar(from + i), car);
            CHECK.due("P10: amount of entry " + i, x.logAmount(from + i), due[i][1]);
        }
    }

    private static void errors() {
        ParkingEnforcement x = chargedTown();
        CHECK.due("P10: car -1", x.payFines(-1, 1), -1);
        CHECK.due("P10: car 16", x.payFines(16, 1), -1);
        CHECK.due("P10: 0 cents", x.payFines(0, 0), -1);
        CHECK.due("P10: 100000 cents", x.payFines(0, 100000), -1);
        CHECK.due("P10: nothing to pay", x.payFines(0, 99999), -3);
        x.park(0, 0);
        x.advance(40);
        CHECK.due("P10: overtime alone is nothing to pay", x.payFines(0, 100), -3);
        CHECK.due("P35: no credit of it", x.credit(0), 0);
        CHECK.due("P10: nothing logged of it", x.logCount(), 1);
        int[] wrong = {-1, 16};
        for (int car : wrong) {
            CHECK.due("P34: no car", x.due(car), -1);
            CHECK.due("P35: no car", x.credit(car), -1);
            CHECK.due("P36: no car", x.fees(car), -1);
        }
    }

    private static void ticketsOfAParkedCar() {
        ParkingEnforcement x = chargedTown();
        x.park(2, 0);
        x.advance(30);
        x.inspect(0);
        x.advance(120);
        x.inspect(0);
        CHECK.due("P34: two tickets", x.due(2), 8000);
        CHECK.due("P10: not enough", x.payFines(2, 1499), 6501);
        CHECK.due("P33: not enough", x.isTicketPaid(2, 0), false);
        CHECK.due("P35: credit", x.credit(2), 1499);
        int log = x.logCount();
        CHECK.due("P10: just enough for the oldest", x.payFines(2, 1), 6500);
        entries(x, log, 2, new int[][] {{6, 1}, {7, 1500}});
        CHECK.due("P33: the oldest", x.isTicketPaid(2, 0), true);
        CHECK.due("P33: the other", x.isTicketPaid(2, 1), false);
        CHECK.due("P35: nothing left", x.credit(2), 0);
        log = x.logCount();
        CHECK.due("P10: more than enough", x.payFines(2, 7000), 0);
        entries(x, log, 2, new int[][] {{6, 7000}, {7, 6500}});
        CHECK.due("P35: the rest stays", x.credit(2), 500);
        CHECK.due("P34: nothing is due", x.due(2), 0);
        CHECK.due("P26: it is parked still", x.state(2), 1);
        CHECK.due("P28: and not paid until now", x.paidUntil(2), 0);
        CHECK.due("P10: nothing to pay", x.payFines(2, 1), -3);
        x.advance(120);
        x.inspect(0);
        CHECK.due("P33: a later ticket is not paid from the credit", x.isTicketPaid(2, 2), false);
        CHECK.due("P34: but the credit counts", x.due(2), 5500);
        CHECK.due("P10: with the credit it is enough", x.payFines(2, 5500), 0);
        CHECK.due("P33: paid with the credit", x.isTicketPaid(2, 2), true);
    }

    private static void creditAboveALaterTicket() {
        ParkingEnforcement x = chargedTown();
        x.park(2, 0);
        x.advance(30);
        x.inspect(0);
        x.payFines(2, 20000);
        x.advance(120);
        x.inspect(0);
        CHECK.due("P34: at least 0", x.due(2), 0);
        CHECK.due("P45: no debt below 0", x.owedInAll(), 0);
        int log = x.logCount();
        CHECK.due("P10: a cent sets it going", x.payFines(2, 1), 0);
        entries(x, log, 2, new int[][] {{6, 1}, {7, 6000}});
        CHECK.due("P35: left", x.credit(2), 12501);
    }

    private static void aClampedCar() {
        ParkingEnforcement x = chargedTown();
        clamp(x, 4);
        CHECK.due("P34: all", x.due(4), 1500 + 6500 + 7000 + 8000);
        CHECK.due("P10: two tickets", x.payFines(4, 8000), 15000);
        CHECK.due("P26: clamped still", x.state(4), 2);
        CHECK.due("P10: the fees are behind the tickets", x.payFines(4, 6999), 8001);
        CHECK.due("P33: the third is not paid", x.isTicketPaid(4, 2), false);
        int log = x.logCount();
        CHECK.due("P10: all tickets, but the fees", x.payFines(4, 8000), 1);
        entries(x, log, 4, new int[][] {{6, 8000}, {7, 7000}});
        CHECK.due("P36: the fees stay", x.fees(4), 8000);
        CHECK.due("P35: credit", x.credit(4), 7999);
        CHECK.due("P26: clamped still", x.state(4), 2);
        x.advance(10);
        log = x.logCount();
        CHECK.due("P10: the last cents", x.payFines(4, 11), 0);
        entries(x, log, 4, new int[][] {{6, 11}, {8, 8000}, {9, 0}});
        CHECK.due("P35: ten are left", x.credit(4), 10);
        CHECK.due("P36: no fees", x.fees(4), 0);
        CHECK.due("P26: parked again", x.state(4), 1);
        CHECK.due("P27: where it was", x.placeOf(4), 0);
        CHECK.due("P28: paid until now", x.paidUntil(4), 280);
        CHECK.due("P37: not clamped", x.clampedSince(4), -2);
    }

    private static void aClampedCarAtOnce() {
        ParkingEnforcement x = chargedTown();
        clamp(x, 4, 5);
        CHECK.due("P45: both", x.owedInAll(), 46000);
        int log = x.logCount();
        CHECK.due("P10: all at once", x.payFines(5, 23000), 0);
        entries(x, log, 5, new int[][] {{6, 23000}, {7, 1500}, {7, 6500}, {7, 7000}, {8, 8000}, {9, 0}});
        CHECK.due("P45: the other", x.owedInAll(), 23000);
        CHECK.due("P26: the other", x.state(4), 2);
        CHECK.due("P30: the tickets stay", x.ticketCount(5), 3);
    }

    private static void aCarInAPound() {
        ParkingEnforcement x = chargedTown();
        clamp(x, 4);
        x.payFines(4, 15000);
        x.advance(180);
        CHECK.due("P11: towed", x.towNext(), 4);
        CHECK.due("P36: both fees", x.fees(4), 23000);
        CHECK.due("P10: not all", x.payFines(4, 22999), 1);
        CHECK.due("P26: in the pound", x.state(4), 3);
        CHECK.due("P24: its room", x.poundFree(1), 1);
        int log = x.logCount();
        CHECK.due("P10: all", x.payFines(4, 2), 0);
        entries(x, log, 4, new int[][] {{6, 2}, {8, 23000}, {9, 1}});
        CHECK.due("P26: away", x.state(4), 0);
        CHECK.due("P27: away", x.placeOf(4), -2);
        CHECK.due("P24: its room is free", x.poundFree(1), 2);
        CHECK.due("P35: left", x.credit(4), 1);
        CHECK.due("P6: it can park again", x.park(4, 1), 1);
        CHECK.due("P30: its tickets stay", x.ticketCount(4), 3);
    }

    private static void aCarThatIsAway() {
        ParkingEnforcement x = chargedTown();
        x.park(4, 0);
        x.advance(10);
        x.inspect(0);
        x.leave(4);
        int log = x.logCount();
        CHECK.due("P10: it pays from afar", x.payFines(4, 1500), 0);
        entries(x, log, 4, new int[][] {{6, 1500}, {7, 1500}});
        CHECK.due("P26: away", x.state(4), 0);
    }

    private static void promise45() {
        ParkingEnforcement x = chargedTown();
        CHECK.due("P45: nothing", x.owedInAll(), 0);
        x.park(0, 0);
        x.park(15, 0);
        x.advance(30);
        x.inspect(0);
        x.payFines(15, 500);
        CHECK.due("P45: two cars", x.owedInAll(), 2500);
        x.payFines(0, 9000);
        CHECK.due("P45: a credit of one is nothing for the other", x.owedInAll(), 1000);
    }

    public static void main(String[] args) {
        errors();
        ticketsOfAParkedCar();
        creditAboveALaterTicket();
        aClampedCar();
        aClampedCarAtOnce();
        aCarInAPound();
        aCarThatIsAway();
        promise45();
        CHECK.end();
    }
}
