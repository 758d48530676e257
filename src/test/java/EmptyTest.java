import java.util.NoSuchElementException;

/** What is empty: a new object, the buffer, the log, a place, a slot, a car without tickets; and what load leaves. */
public final class EmptyTest {
    private static final Check CHECK = new Check();
    private static final int CARS = 16;

    // "A new object has the town that load() makes of the text "places 1"."
    private static void aNewObject() {
        ParkingEnforcement x = new ParkingEnforcement();
        CHECK.due("P1: as of places 1", Look.whole(x), Look.whole(CHECK.town("places 1")));
        CHECK.due("P1: two objects are two", new ParkingEnforcement().advance(5), 5);
        CHECK.due("P1: two objects are two", new ParkingEnforcement().now(), 0);
    }

    // "with an empty input buffer and empty snapshot slots"
    private static void emptyBufferAndSlots() {
        CHECK.due("P1: the buffer is empty", new ParkingEnforcement().appendByte('p'), 1);
        ParkingEnforcement x = new ParkingEnforcement();
        CHECK.due("P14: slot 0 is empty", x.restoreSnapshot(0), -3);
        CHECK.due("P14: slot 1 is empty", x.restoreSnapshot(1), -3);
        x.saveSnapshot(1);
        CHECK.due("P14: slot 0 is empty still", x.restoreSnapshot(0), -3);
        CHECK.due("P14: slot 1 is not", x.restoreSnapshot(1), 0);
    }

    // "The buffer is empty after every call."
    private static void theBufferAfterLoad() {
        ParkingEnforcement x = new ParkingEnforcement();
        CHECK.due("P3: an empty buffer", x.load(), -100);
        CHECK.due("P4: an empty buffer", x.loadError(), 1);
        CHECK.due("P2: after an empty one", x.appendByte('p'), 1);
        CHECK.due("P3: an error", x.load(), -100);
        CHECK.due("P2: after an error", x.appendByte('p'), 1);
        Check.append(x, "laces 4");
        CHECK.due("P3: no error", x.load(), 4);
        CHECK.due("P2: after no error", x.appendByte('p'), 1);
        Check.append(x, "laces 0");
        CHECK.due("P3: a number out of its range", x.load(), -107);
        CHECK.due("P3: an empty buffer again", x.load(), -100);
        CHECK.due("P16: the town stays", x.placeCount(), 4);
    }

    // "0 if it had no error or there was no call": the latest call alone counts
    private static void loadError() {
        ParkingEnforcement x = new ParkingEnforcement();
        CHECK.due("P4: no call", x.loadError(), 0);
        String[] texts = {"places x", "places 0", "places 1;road 0 0", "places 1", "places 11", ""};
        int[] due = {1, 2, 3, 0, 2, 1};
        for (int i = 0; i < texts.length; i++) {
            Check.append(x, texts[i]);
            x.load();
            CHECK.due("P4: after " + texts[i], x.loadError(), due[i]);
            CHECK.due("P4: asked again after " + texts[i], x.loadError(), due[i]);
        }
    }

    // "the log is empty"
    private static void anEmptyLog() {
        ParkingEnforcement x = new ParkingEnforcement();
        CHECK.due("P39: empty", x.logCount(), 0);
        Class<IndexOutOfBoundsException> due = IndexOutOfBoundsException.class;
        CHECK.fails("P40: empty", due, () -> x.logMinute(0));
        CHECK.fails("P41: empty", due, () -> x.logKind(0));
        CHECK.fails("P42: empty", due, () -> x.logCar(0));
        CHECK.fails("P43: empty", due, () -> x.logAmount(0));
        for (int day = 0; day < 7; day++) {
            CHECK.due("P44: empty", x.daySum(day, 2), 0);
            CHECK.due("P44: empty", x.daySum(day, 10), 0);
            CHECK.due("P52: empty", x.revenue(0, day), 0);
            CHECK.due("P54: empty", x.busiestPlace(day), -3);
        }
    }

    // "all cars are away, without tickets, fees and credit"
    private static void emptyCars() {
        ParkingEnforcement x = new ParkingEnforcement();
        Class<NoSuchElementException> due = NoSuchElementException.class;
        for (int number = 0; number < CARS; number++) {
            int car = number;
            CHECK.due("P26: away", x.state(car), 0);
            CHECK.due("P30: no tickets", x.ticketCount(car), 0);
            CHECK.fails("P31: no tickets", due, () -> x.ticketAmount(car, 0));
            CHECK.fails("P32: no tickets", due, () -> x.ticketMinute(car, 0));
            CHECK.due("P33: no tickets", x.isTicketPaid(car, 0), false);
            CHECK.due("P34: nothing", x.due(car), 0);
            CHECK.due("P35: no credit", x.credit(car), 0);
            CHECK.due("P36: no fees", x.fees(car), 0);
            CHECK.due("P10: nothing to pay", x.payFines(car, 1), -3);
        }
        CHECK.due("P45: nothing", x.owedInAll(), 0);
    }

    // An empty place has nothing to inspect and no cars.
    private static void anEmptyPlace() {
        ParkingEnforcement x = CHECK.town("places 2;rate 0 0 24 60");
        x.park(3, 1);
        x.advance(200);
        CHECK.due("P9: an empty place", x.inspect(0), 0);
        CHECK.due("P22: an empty place", x.freeSpaces(0), 2);
        CHECK.due("P23: an empty place", x.carsAt(0), 0);
        CHECK.due("P50: an empty place", x.ticketsAfter(0, 600), 0);
        CHECK.due("P51: an empty place", x.bestInspection(0, 120), 0);
        CHECK.due("P53: an empty place", x.paidSoon(0, 600), 0);
        CHECK.due("P39: nothing is logged", x.logCount(), 1);
    }

    // "In the state that load() makes, the minute is 0, .. the log is empty, and the truck is at the place of the
    // pound that was described first."
    private static void whatLoadLeaves() {
        String town = "places 3;road 0 1 4;rate 0 0 24 60;pound 1 2;pound 0 1";
        ParkingEnforcement x = CHECK.town(town);
        x.park(0, 0);
        x.park(15, 0);
        x.advance(1440);
        for (int round = 0; round < 3; round++) {
            x.inspect(0);
            x.advance(180);
        }
        x.towNext();
        x.payFines(15, 99999);
        x.setRate(0, 7, 0);
        Check.append(x, town);
        CHECK.due("P3: load", x.load(), 3);
        CHECK.due("P3: as new", Look.town(x), Look.town(CHECK.town(town)));
        CHECK.due("P25: described first, though greater", x.truck(), 1);
        CHECK.due("P15: the minute", x.now(), 0);
        CHECK.due("P39: the log", x.logCount(), 0);
    }

    // "replaces everything except the snapshots"
    private static void loadKeepsTheSnapshots() {
        ParkingEnforcement x = CHECK.town("places 3");
        x.advance(7);
        x.saveSnapshot(1);
        Check.append(x, "places 2");
        x.load();
        CHECK.due("P14: slot 0 is empty", x.restoreSnapshot(0), -3);
        CHECK.due("P14: slot 1 is kept", x.restoreSnapshot(1), 7);
        CHECK.due("P16: slot 1 is kept", x.placeCount(), 3);
    }

    public static void main(String[] args) {
        aNewObject();
        emptyBufferAndSlots();
        theBufferAfterLoad();
        loadError();
        anEmptyLog();
        emptyCars();
        anEmptyPlace();
        whatLoadLeaves();
        loadKeepsTheSnapshots();
        CHECK.end();
    }
}
