import java.util.ArrayList;
import java.util.List;

/** All that can be asked of an object, a row of text for each answer. */
final class Look {
    private static final int LOG_ROWS = 8;

    private final ParkingEnforcement x;
    private final List<String> rows = new ArrayList<>();

    private Look(ParkingEnforcement x) {
        this.x = x;
    }

    /** The town and its state, with the newest entries of the log; some 240 calls, none of which changes it. */
    static List<String> town(ParkingEnforcement x) {
        Look look = new Look(x);
        look.all();
        int places = x.placeCount();
        for (int place = 0; place < places; place++) {
            look.place(place);
        }
        for (int number = 0; number < 4; number++) {
            look.row("longestStay " + number, x.longestStay(number));
        }
        for (int car = 0; car < 16; car++) {
            look.car(car);
        }
        int entries = x.logCount();
        for (int entry = Math.max(0, entries - LOG_ROWS); entry < entries; entry++) {
            look.entry(entry);
        }
        return look.rows;
    }

    /** The town, the result of loadError, the snapshots and the buffer; afterwards the object is another one. */
    static List<String> whole(ParkingEnforcement x) {
        Look look = new Look(x);
        look.rows.addAll(town(x));
        look.row("loadError", x.loadError());
        look.rows.addAll(slots(x));
        // A buffer that ends in a number, or before one, is seen by what it describes then.
        look.row("appendByte", x.appendByte('7'));
        look.row("load", x.load());
        look.row("loadError of the buffer", x.loadError());
        look.row("distance in the buffer", x.distance(0, 1));
        return look.rows;
    }

    /** What the two snapshots hold; afterwards the object has the town of one of them. */
    static List<String> slots(ParkingEnforcement x) {
        Look look = new Look(x);
        for (int index = 0; index < 2; index++) {
            look.row("restoreSnapshot " + index, x.restoreSnapshot(index));
            look.row("placeCount of " + index, x.placeCount());
            look.row("carsAt 0 of " + index, x.carsAt(0));
            look.row("owedInAll of " + index, x.owedInAll());
            look.row("logCount of " + index, x.logCount());
            look.row("price of a day of " + index, x.price(0, 0, 1440));
        }
        return look.rows;
    }

    private void row(String name, long answer) {
        rows.add(name + " is " + answer);
    }

    private void all() {
        row("now", x.now());
        row("placeCount", x.placeCount());
        row("truck", x.truck());
        row("towable", x.towable());
        row("owedInAll", x.owedInAll());
        row("logCount", x.logCount());
        row("tourLength", x.tourLength());
        row("tourMinutes", x.tourMinutes());
    }

    /** The price of a whole day tells of each hour's rate. */
    private void place(int place) {
        row("zone " + place, x.zone(place));
        row("freeSpaces " + place, x.freeSpaces(place));
        row("carsAt " + place, x.carsAt(place));
        row("poundFree " + place, x.poundFree(place));
        row("distance 0 " + place, x.distance(0, place));
        row("price of a day " + place, x.price(place, 0, 1440));
    }

    private void car(int car) {
        row("state " + car, x.state(car));
        row("placeOf " + car, x.placeOf(car));
        row("paidUntil " + car, x.paidUntil(car));
        row("credit " + car, x.credit(car));
        row("fees " + car, x.fees(car));
        row("due " + car, x.due(car));
        row("clampedSince " + car, x.clampedSince(car));
        int tickets = x.ticketCount(car);
        row("ticketCount " + car, tickets);
        if (tickets > 0) {
            row("newest ticketAmount " + car, x.ticketAmount(car, tickets - 1));
            row("newest ticketMinute " + car, x.ticketMinute(car, tickets - 1));
            row("newest isTicketPaid " + car, x.isTicketPaid(car, tickets - 1) ? 1 : 0);
        }
    }

    private void entry(int entry) {
        row("logMinute " + entry, x.logMinute(entry));
        row("logKind " + entry, x.logKind(entry));
        row("logCar " + entry, x.logCar(entry));
        row("logAmount " + entry, x.logAmount(entry));
    }
}
