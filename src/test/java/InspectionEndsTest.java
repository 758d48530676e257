/** Sections 4 and 5 and promises 9, 10, 33 to 37, 45 and 49 to 51, sentence by sentence: tickets and payments. */
public final class InspectionEndsTest {
    private static final Check CHECK = new Check();

    /** A place with eight spaces, and cars 0, 1, .. parked there in minute 0. */
    private static ParkingEnforcement parked(int cars) {
        ParkingEnforcement x = CHECK.town("places 2;spaces 0 8;rate 0 0 24 60;stay 0 600;pound 0 1");
        for (int car = 0; car < cars; car++) {
            x.park(car, 0);
        }
        return x;
    }

    private static int inspectAfter(ParkingEnforcement x, int minutes) {
        x.advance(minutes);
        return x.inspect(0);
    }

    /** Car 0 has tickets of 3000, 6500 and 7000 cents, and is clamped in minute 360. */
    private static ParkingEnforcement clamped() {
        ParkingEnforcement x = parked(1);
        for (int round = 0; round < 3; round++) {
            inspectAfter(x, 120);
        }
        return x;
    }

    // "A ticket is written for a car if its overtime is greater than 0"
    private static void overtimeGreaterThan0() {
        ParkingEnforcement x = parked(1);
        CHECK.due("P9: parked just now", x.inspect(0), 0);
        x.pay(0, 10);
        CHECK.due("P9: paid for a minute more", inspectAfter(x, 9), 0);
        CHECK.due("P9: paid until now", inspectAfter(x, 1), 0);
        CHECK.due("P49: none", x.ticketNow(0), 0);
        CHECK.due("P9: a minute not paid", inspectAfter(x, 1), 1);
    }

    private static void amount(int overtime, int due) {
        ParkingEnforcement x = parked(1);
        x.advance(overtime);
        CHECK.due("P49: overtime " + overtime, x.ticketNow(0), due);
        x.inspect(0);
        CHECK.due("P31: overtime " + overtime, x.ticketAmount(0, 0), due);
    }

    // "1500 cents for an overtime of up to 30 minutes, 3000 for up to 120, and 6000 for more"
    private static void amounts() {
        amount(1, 1500);
        amount(30, 1500);
        amount(31, 3000);
        amount(120, 3000);
        amount(121, 6000);
        amount(1440, 6000);
    }

    // "the minute of its latest ticket is at most now - 120, or it has none"
    private static void theLast120Minutes() {
        ParkingEnforcement x = parked(2);
        CHECK.due("P9: none before, in minute 1", inspectAfter(x, 1), 2);
        CHECK.due("P9: in the same minute", x.inspect(0), 0);
        CHECK.due("P9: 119 minutes", inspectAfter(x, 119), 0);
        CHECK.due("P9: 120 minutes", inspectAfter(x, 1), 2);
        CHECK.due("P9: 119 minutes after the latest", inspectAfter(x, 119), 0);
        CHECK.due("P9: 121 minutes after the latest", inspectAfter(x, 2), 2);
        CHECK.due("P32: the latest", x.ticketMinute(1, 2), 242);
    }

    // "plus 500 for each unpaid ticket of the car" (a third unpaid one clamps it, so two are the most)
    private static void unpaidTickets() {
        ParkingEnforcement x = parked(1);
        x.advance(121);
        CHECK.due("P49: none is unpaid", x.ticketNow(0), 6000);
        x.inspect(0);
        x.advance(120);
        CHECK.due("P49: one is unpaid", x.ticketNow(0), 6500);
        x.inspect(0);
        x.advance(120);
        CHECK.due("P49: two are unpaid", x.ticketNow(0), 7000);
        x.payFines(0, 6000);
        CHECK.due("P49: one of two is paid", x.ticketNow(0), 6500);
        x.payFines(0, 6500);
        CHECK.due("P49: both are paid", x.ticketNow(0), 6000);
    }

    // "If the car has three or more unpaid tickets then, the new one included, it is clamped at once"
    private static void threeUnpaidTickets() {
        ParkingEnforcement x = parked(1);
        inspectAfter(x, 121);
        inspectAfter(x, 120);
        CHECK.due("P26: two unpaid", x.state(0), 1);
        CHECK.due("P36: two unpaid", x.fees(0), 0);
        x.payFines(0, 6000);
        inspectAfter(x, 120);
        CHECK.due("P26: two unpaid of three", x.state(0), 1);
        inspectAfter(x, 120);
        CHECK.due("P26: three unpaid of four", x.state(0), 2);
        CHECK.due("P36: three unpaid of four", x.fees(0), 8000);
        CHECK.due("P37: at once", x.clampedSince(0), 481);
    }

    // "looks at all parked cars there, in the order of their numbers (not at clamped ones)"
    private static void allParkedCars() {
        ParkingEnforcement x = parked(8);
        x.park(15, 1);
        CHECK.due("P9: eight cars", inspectAfter(x, 10), 8);
        for (int car = 0; car < 8; car++) {
            CHECK.due("P42: the order", x.logCar(9 + car), car);
        }
        CHECK.due("P30: not at the other place", x.ticketCount(15), 0);
        CHECK.due("P9: an empty place", parked(0).inspect(0), 0);
        ParkingEnforcement y = clamped();
        CHECK.due("P9: a clamped one", inspectAfter(y, 500), 0);
        CHECK.due("P49: a clamped one", y.ticketNow(0), 0);
        CHECK.due("P50: a clamped one", y.ticketsAfter(0, 600), 0);
        CHECK.due("P51: a clamped one", y.bestInspection(0, 120), 0);
    }

    // "how many tickets an inspection of a place would write after so many minutes"
    private static void ticketsAfter() {
        ParkingEnforcement x = parked(2);
        x.pay(1, 599);
        CHECK.due("P50: now", x.ticketsAfter(0, 0), 0);
        CHECK.due("P50: a minute on", x.ticketsAfter(0, 1), 1);
        CHECK.due("P50: 599 minutes on", x.ticketsAfter(0, 599), 1);
        CHECK.due("P50: 600 minutes on", x.ticketsAfter(0, 600), 2);
        inspectAfter(x, 1);
        CHECK.due("P50: 119 minutes behind a ticket", x.ticketsAfter(0, 119), 0);
        CHECK.due("P50: 120 minutes behind a ticket", x.ticketsAfter(0, 120), 1);
    }

    // "Of equal ones it is the smallest number."
    private static void bestInspection() {
        ParkingEnforcement x = parked(1);
        CHECK.due("P51: no minutes", x.bestInspection(0, 0), 0);
        CHECK.due("P51: the first with 1500", x.bestInspection(0, 30), 1);
        CHECK.due("P51: the first with 3000", x.bestInspection(0, 31), 31);
        CHECK.due("P51: the first of them still", x.bestInspection(0, 120), 31);
        x.advance(1);
        CHECK.due("P51: 6000 a minute behind the end", x.bestInspection(0, 119), 30);
        CHECK.due("P51: 6000 at the end", x.bestInspection(0, 120), 120);
        x.advance(300);
        CHECK.due("P51: at once, of equal ones", x.bestInspection(0, 120), 0);
        CHECK.due("P51: an empty place", x.bestInspection(1, 120), 0);
    }

    // "as long as the credit is at least the amount of the oldest unpaid ticket"
    private static void atLeastTheAmount() {
        ParkingEnforcement x = parked(1);
        inspectAfter(x, 1);
        CHECK.due("P10: a cent too little", x.payFines(0, 1499), 1);
        CHECK.due("P33: a cent too little", x.isTicketPaid(0, 0), false);
        CHECK.due("P35: a cent too little", x.credit(0), 1499);
        CHECK.due("P10: just enough", x.payFines(0, 1), 0);
        CHECK.due("P33: just enough", x.isTicketPaid(0, 0), true);
        CHECK.due("P35: just enough", x.credit(0), 0);
        CHECK.due("P10: nothing is unpaid", x.payFines(0, 1), -3);
    }

    // "beginning with the oldest": a later one that is smaller waits
    private static void theOldestFirst() {
        ParkingEnforcement x = parked(1);
        inspectAfter(x, 121);
        x.pay(0, 119);
        inspectAfter(x, 120);
        CHECK.due("P31: the oldest", x.ticketAmount(0, 0), 6000);
        CHECK.due("P31: the later one", x.ticketAmount(0, 1), 2000);
        CHECK.due("P10: enough for the later one", x.payFines(0, 5999), 2001);
        CHECK.due("P33: the oldest", x.isTicketPaid(0, 0), false);
        CHECK.due("P33: the later one", x.isTicketPaid(0, 1), false);
        CHECK.due("P10: a cent more", x.payFines(0, 1), 2000);
        CHECK.due("P33: the oldest", x.isTicketPaid(0, 0), true);
        CHECK.due("P33: the later one", x.isTicketPaid(0, 1), false);
        CHECK.due("P10: enough for both", x.payFines(0, 2000), 0);
    }

    // "When no ticket is unpaid and the credit is at least the fees, and the fees are not 0"
    private static void atLeastTheFees() {
        ParkingEnforcement x = clamped();
        CHECK.due("P10: a cent too little for the tickets", x.payFines(0, 16499), 8001);
        CHECK.due("P33: the third", x.isTicketPaid(0, 2), false);
        CHECK.due("P36: a cent too little for the tickets", x.fees(0), 8000);
        CHECK.due("P10: a cent too little for the fees", x.payFines(0, 8000), 1);
        CHECK.due("P33: the third", x.isTicketPaid(0, 2), true);
        CHECK.due("P36: a cent too little for the fees", x.fees(0), 8000);
        CHECK.due("P26: a cent too little", x.state(0), 2);
        CHECK.due("P10: no ticket is unpaid, but the fees", x.payFines(0, 1), 0);
        CHECK.due("P36: paid", x.fees(0), 0);
        CHECK.due("P26: released", x.state(0), 1);
        CHECK.due("P28: paid until now", x.paidUntil(0), 360);
        ParkingEnforcement y = parked(1);
        inspectAfter(y, 1);
        int entries = y.logCount();
        y.payFines(0, 99999);
        CHECK.due("P39: no fees, so no entry of them and no release", y.logCount(), entries + 2);
    }

    // "a car in a pound is released: it is away"
    private static void releasedFromAPound() {
        ParkingEnforcement x = clamped();
        x.advance(180);
        x.towNext();
        CHECK.due("P10: a cent too little", x.payFines(0, 39499), 1);
        CHECK.due("P26: in the pound", x.state(0), 3);
        CHECK.due("P10: just enough", x.payFines(0, 1), 0);
        CHECK.due("P26: away", x.state(0), 0);
        CHECK.due("P24: its room", x.poundFree(0), 1);
        CHECK.due("P41: released", x.logKind(x.logCount() - 1), 9);
        CHECK.due("P43: where it was", x.logAmount(x.logCount() - 1), 0);
    }

    // "A credit that is left stays. (A ticket that is written later is not paid from the credit before ..)"
    private static void creditThatIsLeft() {
        ParkingEnforcement x = parked(1);
        inspectAfter(x, 1);
        x.payFines(0, 9999);
        CHECK.due("P35: left", x.credit(0), 8499);
        inspectAfter(x, 120);
        CHECK.due("P33: not paid", x.isTicketPaid(0, 1), false);
        CHECK.due("P34: at least 0", x.due(0), 0);
        CHECK.due("P45: at least 0", x.owedInAll(), 0);
        CHECK.due("P10: unpaid, though nothing is due", x.payFines(0, 1), 0);
        CHECK.due("P33: paid with the next payment", x.isTicketPaid(0, 1), true);
        CHECK.due("P35: left", x.credit(0), 2500);
    }

    // "its unpaid tickets and its fees, minus its credit, but at least 0"; "the sum of what is due for all cars"
    private static void due() {
        ParkingEnforcement x = parked(3);
        inspectAfter(x, 1);
        x.payFines(0, 1501);
        x.payFines(1, 1000);
        inspectAfter(x, 120);
        CHECK.due("P34: a credit of one", x.due(0), 5999);
        CHECK.due("P34: a credit that was not enough", x.due(1), 1500 - 1000 + 6500);
        CHECK.due("P34: two tickets", x.due(2), 8000);
        CHECK.due("P45: all", x.owedInAll(), 5999 + 7000 + 8000);
        x.payFines(0, 99999);
        CHECK.due("P34: paid, with a credit", x.due(0), 0);
        CHECK.due("P45: the credit of one is not for the others", x.owedInAll(), 15000);
    }

    public static void main(String[] args) {
        overtimeGreaterThan0();
        amounts();
        theLast120Minutes();
        unpaidTickets();
        threeUnpaidTickets();
        allParkedCars();
        ticketsAfter();
        bestInspection();
        atLeastTheAmount();
        theOldestFirst();
        atLeastTheFees();
        releasedFromAPound();
        creditThatIsLeft();
        due();
        CHECK.end();
    }
}
