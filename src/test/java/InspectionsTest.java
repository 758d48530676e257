import java.util.NoSuchElementException;

/** Promises 9, 30 to 33, 37 and 49 to 51: inspections, tickets and clamps. */
public final class InspectionsTest {
    private static final Check CHECK = new Check();

    private static ParkingEnforcement chargedTown() {
        return CHECK.town("places 2;spaces 0 8;spaces 1 8;rate 0 0 24 60;stay 0 600");
    }

    private static void amountFor(int overtime, int amount) {
        ParkingEnforcement x = chargedTown();
        x.park(0, 0);
        x.pay(0, 15);
        x.advance(15 + overtime);
        CHECK.due("P49: overtime " + overtime, x.ticketNow(0), amount);
        CHECK.due("P9: overtime " + overtime, x.inspect(0), amount > 0 ? 1 : 0);
        CHECK.due("P30: overtime " + overtime, x.ticketCount(0), amount > 0 ? 1 : 0);
        CHECK.due("P34: overtime " + overtime, x.due(0), amount);
        if (amount > 0) {
            CHECK.due("P31: overtime " + overtime, x.ticketAmount(0, 0), amount);
            CHECK.due("P32: overtime " + overtime, x.ticketMinute(0, 0), 15 + overtime);
        }
    }

    private static void promise9Amounts() {
        amountFor(0, 0);
        amountFor(1, 1500);
        amountFor(30, 1500);
        amountFor(31, 3000);
        amountFor(120, 3000);
        amountFor(121, 6000);
        amountFor(1000, 6000);
    }

    private static void promise9Errors() {
        ParkingEnforcement x = chargedTown();
        CHECK.due("P9: place -1", x.inspect(-1), -1);
        CHECK.due("P9: place 2", x.inspect(2), -1);
        CHECK.due("P9: no cars", x.inspect(0), 0);
        CHECK.due("P49: car -1", x.ticketNow(-1), -1);
        CHECK.due("P49: car 16", x.ticketNow(16), -1);
        CHECK.due("P49: away", x.ticketNow(0), 0);
        CHECK.due("P9: nothing logged", x.logCount(), 0);
    }

    private static void promise9Gap() {
        ParkingEnforcement x = chargedTown();
        x.park(7, 1);
        x.advance(5);
        CHECK.due("P9: only the place", x.inspect(0), 0);
        CHECK.due("P9: first", x.inspect(1), 1);
        CHECK.due("P9: at once again", x.inspect(1), 0);
        CHECK.due("P49: at once again", x.ticketNow(7), 0);
        x.advance(119);
        CHECK.due("P9: 119 minutes after", x.inspect(1), 0);
        CHECK.due("P50: not yet", x.ticketsAfter(1, 0), 0);
        CHECK.due("P50: a minute on", x.ticketsAfter(1, 1), 1);
        x.advance(1);
        CHECK.due("P49: 120 minutes after, one unpaid", x.ticketNow(7), 6500);
        CHECK.due("P9: 120 minutes after", x.inspect(1), 1);
        x.leave(7);
        CHECK.due("P49: it left", x.ticketNow(7), 0);
        x.advance(60);
        x.park(7, 0);
        x.advance(59);
        CHECK.due("P9: the gap counts for the car, wherever", x.inspect(0), 0);
        x.advance(1);
        CHECK.due("P49: two unpaid", x.ticketNow(7), 4000);
        CHECK.due("P9: two unpaid", x.inspect(0), 1);
        CHECK.due("P30: three", x.ticketCount(7), 3);
        CHECK.due("P26: clamped", x.state(7), 2);
        CHECK.due("P37: since", x.clampedSince(7), 245);
        CHECK.due("P36: fees", x.fees(7), 8000);
        CHECK.due("P34: due", x.due(7), 1500 + 6500 + 4000 + 8000);
        CHECK.due("P23: it takes its space", x.carsAt(0), 128);
        CHECK.due("P22: it takes its space", x.freeSpaces(0), 7);
        CHECK.due("P27: place", x.placeOf(7), 0);
        CHECK.due("P28: clamped", x.paidUntil(7), -2);
        CHECK.due("P29: clamped", x.overtime(7), -2);
        CHECK.due("P7: clamped", x.pay(7, 10), -2);
        CHECK.due("P8: clamped", x.leave(7), -2);
        CHECK.due("P6: clamped", x.park(7, 1), -2);
        CHECK.due("P53: clamped", x.paidSoon(0, 600), 0);
        x.advance(500);
        CHECK.due("P9: clamped cars are not looked at", x.inspect(0), 0);
        CHECK.due("P49: clamped", x.ticketNow(7), 0);
        CHECK.due("P50: clamped", x.ticketsAfter(0, 600), 0);
    }

    private static void paidTicketsDoNotCount() {
        ParkingEnforcement x = chargedTown();
        x.park(0, 0);
        x.advance(10);
        x.inspect(0);
        x.payFines(0, 1500);
        x.advance(120);
        CHECK.due("P49: the first is paid", x.ticketNow(0), 6000);
        x.inspect(0);
        x.advance(120);
        x.inspect(0);
        CHECK.due("P9: two unpaid of three", x.state(0), 1);
        CHECK.due("P31: the second", x.ticketAmount(0, 1), 6000);
        CHECK.due("P31: the third", x.ticketAmount(0, 2), 6500);
        CHECK.due("P33: the first is paid", x.isTicketPaid(0, 0), true);
        CHECK.due("P33: the second is not", x.isTicketPaid(0, 1), false);
        CHECK.due("P36: no fees", x.fees(0), 0);
    }

    private static void orderOfOneInspection() {
        ParkingEnforcement x = chargedTown();
        for (int car = 9; car >= 6; car--) {
            x.park(car, 0);
        }
        x.advance(1);
        CHECK.due("P9: four", x.inspect(0), 4);
        x.payFines(7, 1500);
        x.advance(120);
        CHECK.due("P9: four again", x.inspect(0), 4);
        x.advance(120);
        x.leave(9);
        int before = x.logCount();
        CHECK.due("P9: three", x.inspect(0), 3);
        int[][] entries = {{4, 6, 7000}, {5, 6, 8000}, {4, 7, 6500}, {4, 8, 7000}, {5, 8, 8000}};
        CHECK.due("P9: five entries", x.logCount() - before, entries.length);
        for (int i = 0; i < entries.length; i++) {
            CHECK.due("P40: minute", x.logMinute(before + i), 241);
            CHECK.due("P41: kind", x.logKind(before + i), entries[i][0]);
            CHECK.due("P42: car", x.logCar(before + i), entries[i][1]);
            CHECK.due("P43: amount", x.logAmount(before + i), entries[i][2]);
        }
        CHECK.due("P23: clamped and parked", x.carsAt(0), 64 + 128 + 256);
    }

    private static void promises30To33() {
        ParkingEnforcement x = chargedTown();
        x.park(3, 0);
        x.park(12, 0);
        x.advance(20);
        x.inspect(0);
        x.advance(120);
        x.payFines(12, 1500);
        x.inspect(0);
        CHECK.due("P30: car -1", x.ticketCount(-1), -1);
        CHECK.due("P30: car 16", x.ticketCount(16), -1);
        CHECK.due("P30: none", x.ticketCount(0), 0);
        CHECK.due("P30: two", x.ticketCount(12), 2);
        CHECK.due("P31: second of 3", x.ticketAmount(3, 1), 6500);
        CHECK.due("P31: second of 12", x.ticketAmount(12, 1), 6000);
        CHECK.due("P32: first of 12", x.ticketMinute(12, 0), 20);
        CHECK.due("P32: second of 12", x.ticketMinute(12, 1), 140);
        int[][] wrong = {{-1, 0}, {16, 0}, {3, -1}, {3, 2}, {0, 0}, {3, Integer.MAX_VALUE}, {3, Integer.MIN_VALUE}};
        for (int[] w : wrong) {
            CHECK.fails("P31: no ticket", NoSuchElementException.class, () -> x.ticketAmount(w[0], w[1]));
            CHECK.fails("P32: no ticket", NoSuchElementException.class, () -> x.ticketMinute(w[0], w[1]));
            CHECK.due("P33: no ticket", x.isTicketPaid(w[0], w[1]), false);
        }
        CHECK.due("P33: paid", x.isTicketPaid(12, 0), true);
        CHECK.due("P33: not paid", x.isTicketPaid(12, 1), false);
        CHECK.due("P33: of another car", x.isTicketPaid(3, 0), false);
        CHECK.due("P33: behind the last", x.isTicketPaid(12, 2), false);
        CHECK.due("P33: before the first", x.isTicketPaid(12, -1), false);
    }

    private static void promise37() {
        ParkingEnforcement x = chargedTown();
        x.park(0, 0);
        CHECK.due("P37: car -1", x.clampedSince(-1), -1);
        CHECK.due("P37: car 16", x.clampedSince(16), -1);
        CHECK.due("P37: away", x.clampedSince(1), -2);
        CHECK.due("P37: parked", x.clampedSince(0), -2);
    }

    private static void promise50() {
        ParkingEnforcement x = chargedTown();
        for (int car = 0; car < 4; car++) {
            x.park(car, 0);
        }
        x.pay(1, 100);
        x.pay(2, 300);
        x.park(4, 1);
        CHECK.due("P50: place -1", x.ticketsAfter(-1, 0), -1);
        CHECK.due("P50: place 2", x.ticketsAfter(2, 0), -1);
        CHECK.due("P50: -1 minutes", x.ticketsAfter(0, -1), -1);
        CHECK.due("P50: 601 minutes", x.ticketsAfter(0, 601), -1);
        CHECK.due("P50: now", x.ticketsAfter(0, 0), 0);
        CHECK.due("P50: a minute on", x.ticketsAfter(0, 1), 2);
        CHECK.due("P50: 100 minutes on", x.ticketsAfter(0, 100), 2);
        CHECK.due("P50: 101 minutes on", x.ticketsAfter(0, 101), 3);
        CHECK.due("P50: 600 minutes on", x.ticketsAfter(0, 600), 4);
        CHECK.due("P50: the other place", x.ticketsAfter(1, 600), 1);
        x.advance(50);
        x.inspect(0);
        CHECK.due("P50: two had one", x.ticketsAfter(0, 119), 1);
        CHECK.due("P50: 120 minutes on", x.ticketsAfter(0, 120), 3);
        CHECK.due("P50: nothing is written", x.ticketCount(1), 0);
        CHECK.due("P50: no time goes by", x.now(), 50);
    }

    private static void promise51() {
        ParkingEnforcement x = chargedTown();
        CHECK.due("P51: place -1", x.bestInspection(-1, 0), -1);
        CHECK.due("P51: place 2", x.bestInspection(2, 0), -1);
        CHECK.due("P51: -1 minutes", x.bestInspection(0, -1), -1);
        CHECK.due("P51: 121 minutes", x.bestInspection(0, 121), -1);
        CHECK.due("P51: no cars", x.bestInspection(0, 120), 0);
        x.park(0, 0);
        CHECK.due("P51: now alone", x.bestInspection(0, 0), 0);
        CHECK.due("P51: the first minute", x.bestInspection(0, 30), 1);
        CHECK.due("P51: the 31st minute", x.bestInspection(0, 120), 31);
        CHECK.due("P51: the 31st minute at last", x.bestInspection(0, 31), 31);
        x.park(1, 0);
        x.pay(1, 100);
        CHECK.due("P51: both", x.bestInspection(0, 120), 101);
        CHECK.due("P51: both, not yet", x.bestInspection(0, 100), 31);
        x.advance(1);
        CHECK.due("P51: both, and the first one's 121st minute", x.bestInspection(0, 120), 120);
        x.inspect(0);
        CHECK.due("P51: the first one had a ticket", x.bestInspection(0, 119), 100);
        CHECK.due("P51: 120 minutes on", x.bestInspection(0, 120), 120);
    }

    private static void promise51WithoutWaiting() {
        ParkingEnforcement x = chargedTown();
        x.park(0, 0);
        x.advance(200);
        CHECK.due("P51: long overdue", x.bestInspection(0, 120), 0);
        x.inspect(0);
        CHECK.due("P51: not before", x.bestInspection(0, 119), 0);
        CHECK.due("P51: just then", x.bestInspection(0, 120), 120);
    }

    private static void behindTheEnd() {
        ParkingEnforcement x = CHECK.town("places 1;rate 0 0 1 60");
        for (int day = 0; day < 6; day++) {
            x.advance(1440);
        }
        x.advance(1439);
        x.park(0, 0);
        CHECK.due("P50: the last minute has no rate", x.ticketsAfter(0, 1), 0);
        CHECK.due("P50: the hour behind it has", x.ticketsAfter(0, 2), 1);
        CHECK.due("P51: 31 minutes of overtime", x.bestInspection(0, 120), 32);
    }

    public static void main(String[] args) {
        promise9Amounts();
        promise9Errors();
        promise9Gap();
        paidTicketsDoNotCount();
        orderOfOneInspection();
        promises30To33();
        promise37();
        promise50();
        promise51();
        promise51WithoutWaiting();
        behindTheEnd();
        CHECK.end();
    }
}
