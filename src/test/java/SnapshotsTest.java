/** Promises 13 and 14: snapshots. */
public final class SnapshotsTest {
    private static final Check CHECK = new Check();

    private static ParkingEnforcement livelyTown() {
        ParkingEnforcement x = CHECK.town("places 3;road 0 1 4;zone 1 2;rate 0 0 24 60;rate 2 0 24 90;stay 2 50;"
                + "spaces 0 3;pound 1 2;pound 0 1");
        x.park(0, 0);
        x.park(1, 1);
        x.pay(1, 30);
        for (int round = 0; round < 3; round++) {
            x.advance(120);
            x.inspect(0);
        }
        x.advance(180);
        x.towNext();
        x.payFines(0, 2000);
        return x;
    }

    /** All that a snapshot contains, as far as it can be asked; 112 calls. */
    private static long[] asked(ParkingEnforcement x) {
        long[] a = new long[120];
        int n = 0;
        a[n++] = x.now();
        a[n++] = x.placeCount();
        a[n++] = x.distance(0, 1);
        a[n++] = x.nextOnWay(0, 1);
        a[n++] = x.zone(1);
        a[n++] = x.rate(2, 7);
        a[n++] = x.longestStay(2);
        a[n++] = x.poundFree(0);
        a[n++] = x.poundFree(1);
        a[n++] = x.truck();
        for (int place = 0; place < 3; place++) {
            a[n++] = x.freeSpaces(place);
        }
        for (int car = 0; car < 3; car++) {
            a[n++] = x.state(car);
            a[n++] = x.placeOf(car);
            a[n++] = x.paidUntil(car);
            a[n++] = x.ticketCount(car);
            a[n++] = x.isTicketPaid(car, 0) ? 1 : 0;
            a[n++] = x.due(car);
            a[n++] = x.credit(car);
            a[n++] = x.fees(car);
            a[n++] = x.clampedSince(car);
            a[n++] = x.ticketNow(car);
        }
        a[n++] = x.logCount();
        for (int i = 0; i < x.logCount(); i++) {
            a[n++] = x.logMinute(i);
            a[n++] = x.logKind(i);
            a[n++] = x.logCar(i);
            a[n++] = x.logAmount(i);
        }
        return a;
    }

    private static void same(String what, ParkingEnforcement x, long[] due) {
        long[] got = asked(x);
        for (int i = 0; i < due.length; i++) {
            CHECK.due("P14: " + what + ", answer " + i, got[i], due[i]);
        }
    }

    private static void changeMuch(ParkingEnforcement x) {
        x.setRate(2, 7, 1);
        x.leave(1);
        x.payFines(0, 50000);
        x.park(2, 2);
        x.advance(500);
        x.inspect(2);
    }

    private static void errors() {
        ParkingEnforcement x = new ParkingEnforcement();
        int[] wrong = {-1, 2, Integer.MIN_VALUE, Integer.MAX_VALUE};
        for (int index : wrong) {
            CHECK.due("P13: " + index, x.saveSnapshot(index), -1);
            CHECK.due("P14: " + index, x.restoreSnapshot(index), -1);
        }
        CHECK.due("P14: nothing in 0", x.restoreSnapshot(0), -3);
        x.advance(9);
        CHECK.due("P13: minute", x.saveSnapshot(1), 9);
        CHECK.due("P14: nothing in 0 still", x.restoreSnapshot(0), -3);
        x.advance(1);
        CHECK.due("P14: minute of the snapshot", x.restoreSnapshot(1), 9);
        CHECK.due("P15: minute of the snapshot", x.now(), 9);
    }

    private static void saveAndRestore() {
        ParkingEnforcement x = livelyTown();
        long[] before = asked(x);
        int minute = x.now();
        CHECK.due("P13: minute", x.saveSnapshot(0), minute);
        changeMuch(x);
        CHECK.due("P14: minute", x.restoreSnapshot(0), minute);
        same("restored", x, before);
        changeMuch(x);
        x.restoreSnapshot(0);
        same("the slot keeps it", x, before);
    }

    private static void behindALoad() {
        ParkingEnforcement x = livelyTown();
        long[] before = asked(x);
        x.saveSnapshot(1);
        Check.append(x, "places 2;pound 1 5");
        x.load();
        x.advance(77);
        for (int car = 12; car >= 9; car--) {
            x.park(car, 1);
            x.leave(car);
        }
        CHECK.due("P13: the other slot", x.saveSnapshot(0), 77);
        x.appendByte('p');
        x.appendByte('l');
        x.restoreSnapshot(1);
        CHECK.due("P14: the buffer stays", x.appendByte('a'), 3);
        same("behind a load", x, before);
        CHECK.due("P14: the other slot", x.restoreSnapshot(0), 77);
        CHECK.due("P14: the other town", x.placeCount(), 2);
        CHECK.due("P14: the other truck", x.truck(), 1);
        CHECK.due("P14: the other cars", x.state(0), 0);
    }

    private static void clampsAndPoundsAreInIt() {
        ParkingEnforcement x = CHECK.town("places 1;rate 0 0 24 60;pound 0 1");
        x.park(0, 0);
        for (int round = 0; round < 3; round++) {
            x.advance(120);
            x.inspect(0);
        }
        x.saveSnapshot(0);
        x.advance(180);
        x.towNext();
        x.saveSnapshot(1);
        Check.append(x, "places 2;road 0 1 5");
        x.load();
        x.restoreSnapshot(0);
        CHECK.due("P14: clamped", x.state(0), 2);
        CHECK.due("P14: clamped since", x.clampedSince(0), 360);
        CHECK.due("P14: the pound is empty", x.poundFree(0), 1);
        x.advance(179);
        CHECK.due("P14: not to be towed yet", x.towable(), 0);
        x.advance(1);
        CHECK.due("P14: to be towed", x.towable(), 1);
        x.restoreSnapshot(1);
        CHECK.due("P14: in the pound", x.state(0), 3);
        CHECK.due("P14: the pound is full", x.poundFree(0), 0);
        CHECK.due("P14: fees", x.fees(0), 23000);
        CHECK.due("P14: the entry of the tow", x.logMinute(x.logCount() - 1), 550);
    }

    private static void replaced() {
        ParkingEnforcement x = new ParkingEnforcement();
        x.park(0, 0);
        x.saveSnapshot(0);
        x.advance(5);
        x.leave(0);
        x.saveSnapshot(0);
        x.park(0, 0);
        CHECK.due("P13: replaced", x.restoreSnapshot(0), 5);
        CHECK.due("P13: replaced, car", x.state(0), 0);
        CHECK.due("P13: replaced, log", x.logCount(), 2);
    }

    private static void theGapBetweenTicketsIsInIt() {
        ParkingEnforcement x = CHECK.town("places 1;rate 0 0 24 60");
        x.park(0, 0);
        x.advance(10);
        x.saveSnapshot(0);
        x.advance(110);
        x.inspect(0);
        x.restoreSnapshot(0);
        CHECK.due("P14: no ticket yet", x.inspect(0), 1);
        x.saveSnapshot(0);
        Check.append(x, "places 1");
        x.load();
        x.restoreSnapshot(0);
        CHECK.due("P14: a ticket just now", x.inspect(0), 0);
        x.advance(390);
        x.inspect(0);
        x.saveSnapshot(0);
        x.load();
        Check.append(x, "places 1");
        x.load();
        x.restoreSnapshot(0);
        CHECK.due("P14: a later ticket just now", x.inspect(0), 0);
    }

    public static void main(String[] args) {
        errors();
        saveAndRestore();
        behindALoad();
        clampsAndPoundsAreInIt();
        replaced();
        theGapBetweenTicketsIsInIt();
        CHECK.end();
    }
}
