/** Section 9 and promises 13 and 14, sentence by sentence: what a snapshot contains and what it doesn't. */
public final class SnapshotEndsTest {
    private static final Check CHECK = new Check();

    private static ParkingEnforcement busy() {
        return BusyTown.make(CHECK);
    }

    private static void changeMuch(ParkingEnforcement x) {
        x.leave(BusyTown.PARKED);
        x.payFines(BusyTown.CLAMPED, 99999);
        x.payFines(BusyTown.POUNDED, 1);
        x.setRate(0, 0, 1);
        x.setRate(3, 23, 999);
        x.park(BusyTown.AWAY, 1);
        x.advance(300);
        x.inspect(1);
        x.pay(BusyTown.OVERDUE, 30);
    }

    // "A snapshot contains the town and its state" - all of it, behind calls that change it
    private static void allIsRestored() {
        ParkingEnforcement x = busy();
        CHECK.due("P13: the minute", x.saveSnapshot(1), BusyTown.MINUTE);
        changeMuch(x);
        CHECK.due("P14: the minute", x.restoreSnapshot(1), BusyTown.MINUTE);
        CHECK.due("P14: all is restored", Look.town(x), Look.town(busy()));
    }

    private static void allIsRestoredBehindALoad() {
        ParkingEnforcement x = busy();
        x.saveSnapshot(1);
        Check.append(x, "5;pound 1 6;rate 0 0 24 9");
        CHECK.due("P3: another town", x.load(), 2);
        x.park(BusyTown.AWAY, 1);
        x.advance(9);
        CHECK.due("P14: the minute", x.restoreSnapshot(1), BusyTown.MINUTE);
        CHECK.due("P14: all is restored", Look.town(x), Look.town(busy()));
    }

    // "a snapshot slot, which keeps it"
    private static void theSlotKeepsIt() {
        ParkingEnforcement x = busy();
        x.saveSnapshot(1);
        x.restoreSnapshot(1);
        changeMuch(x);
        x.restoreSnapshot(1);
        changeMuch(x);
        CHECK.due("P14: the third time", x.restoreSnapshot(1), BusyTown.MINUTE);
        CHECK.due("P14: all is restored", Look.town(x), Look.town(busy()));
    }

    // "Copies the town and its state to a snapshot slot": saving changes nothing else
    private static void savingChangesNothing() {
        ParkingEnforcement x = busy();
        x.saveSnapshot(0);
        x.saveSnapshot(1);
        CHECK.due("P13: the town stays", Look.town(x), Look.town(busy()));
        CHECK.due("P4: the result of loadError stays", x.loadError(), 3);
        CHECK.due("P2: the buffer stays", x.appendByte('7'), 19);
        CHECK.due("P3: what is in the buffer stays", x.load(), 2);
    }

    // "and replaces what that contained"
    private static void savedAgain() {
        ParkingEnforcement x = new ParkingEnforcement();
        for (int minute = 0; minute < 3; minute++) {
            CHECK.due("P13: slot 0", x.saveSnapshot(0), minute);
            x.advance(1);
        }
        CHECK.due("P14: the latest", x.restoreSnapshot(0), 2);
        CHECK.due("P14: the other one is empty", x.restoreSnapshot(1), -3);
    }

    // "The input buffer and the result of loadError stay."
    private static void theBufferAndLoadErrorStay() {
        ParkingEnforcement x = busy();
        x.saveSnapshot(1);
        x.restoreSnapshot(0);
        CHECK.due("P4: it stays 3", x.loadError(), 3);
        CHECK.due("P2: the buffer stays", x.appendByte('7'), 19);
        x.restoreSnapshot(1);
        CHECK.due("P3: the buffer stays still", x.load(), 2);
        CHECK.due("P4: no error", x.loadError(), 0);
        CHECK.due("P17: of the buffer", x.distance(0, 1), 7);
        x.restoreSnapshot(1);
        CHECK.due("P4: it is not that of the snapshot", x.loadError(), 0);
        CHECK.due("P2: nor is the buffer", x.appendByte('p'), 1);
    }

    // "everything except .. the snapshots"
    private static void noSnapshotInASnapshot() {
        ParkingEnforcement x = new ParkingEnforcement();
        x.advance(1);
        x.saveSnapshot(0);
        x.advance(1);
        x.saveSnapshot(1);
        CHECK.due("P14: slot 0", x.restoreSnapshot(0), 1);
        CHECK.due("P14: slot 1, saved later", x.restoreSnapshot(1), 2);
        x.advance(1);
        x.saveSnapshot(0);
        CHECK.due("P14: slot 1", x.restoreSnapshot(1), 2);
        CHECK.due("P14: slot 0, saved later", x.restoreSnapshot(0), 3);
    }

    // "Returns the minute", at both ends of time
    private static void theMinute() {
        ParkingEnforcement x = new ParkingEnforcement();
        CHECK.due("P13: minute 0", x.saveSnapshot(0), 0);
        for (int day = 0; day < 6; day++) {
            x.advance(1440);
        }
        x.advance(1439);
        CHECK.due("P13: minute 10079", x.saveSnapshot(1), 10079);
        CHECK.due("P14: minute 0", x.restoreSnapshot(0), 0);
        CHECK.due("P15: minute 0", x.now(), 0);
        CHECK.due("P14: minute 10079", x.restoreSnapshot(1), 10079);
        CHECK.due("P5: the end of time", x.advance(1), -4);
    }

    public static void main(String[] args) {
        allIsRestored();
        allIsRestoredBehindALoad();
        theSlotKeepsIt();
        savingChangesNothing();
        savedAgain();
        theBufferAndLoadErrorStay();
        noSnapshotInASnapshot();
        theMinute();
        CHECK.end();
    }
}
