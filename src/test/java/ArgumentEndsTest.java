import java.util.NoSuchElementException;

/** For each promise and argument: the last values that are allowed, at both ends, and the first that are not. */
public final class ArgumentEndsTest {
    private static final Check CHECK = new Check();
    private static final int LAST_PLACE = 9;

    /** Places 0 and 9 and zones 0 and 3 differ in all that can be asked. */
    private static ParkingEnforcement ten() {
        return CHECK.town("places 10;road 0 9 7;road 4 9 2;zone 9 3;spaces 0 1;spaces 9 8;pound 0 6;pound 9 1;"
                + "rate 0 0 24 60;rate 3 0 24 120;stay 0 10;stay 3 600");
    }

    /** Hours 0 and 23 differ from each other and from the others. */
    private static ParkingEnforcement small() {
        return CHECK.town("places 1;zone 0 2;rate 2 0 1 120;rate 2 23 24 600;stay 2 600");
    }

    /** Cars 0 and 15, the first one at place 0 and the other at place 9, paid until 4 and 3; the minute is 40. */
    private static ParkingEnforcement parked() {
        ParkingEnforcement x = ten();
        x.park(0, 0);
        x.park(15, LAST_PLACE);
        x.pay(0, 4);
        x.pay(15, 6);
        x.advance(40);
        return x;
    }

    /** Cars 0 and 15 with three tickets, clamped in minutes 280 and 281; the minute is 281. */
    private static ParkingEnforcement clamped() {
        ParkingEnforcement x = parked();
        x.inspect(0);
        x.inspect(LAST_PLACE);
        x.advance(120);
        x.inspect(0);
        x.inspect(LAST_PLACE);
        x.advance(120);
        x.inspect(0);
        x.advance(1);
        x.inspect(LAST_PLACE);
        return x;
    }

    private static void toDay(ParkingEnforcement x, int day) {
        while (x.now() / 1440 < day) {
            x.advance(1440);
        }
    }

    // "value: the byte, 0 to 255"
    private static void promise2Value() {
        CHECK.ends("P2: value", v -> new ParkingEnforcement().appendByte(v), 0, 1, 255, 1);
    }

    // "minutes: 0 to 1440"; "Throws IllegalArgumentException if minutes is out of range"
    private static void promise5Minutes() {
        CHECK.endsOrFails("P5: minutes", IllegalArgumentException.class, v -> new ParkingEnforcement().advance(v),
                0, 0, 1440, 1440);
    }

    // "car: 0 to 15", "place: a place"
    private static void promise6() {
        CHECK.ends("P6: car", v -> ten().park(v, LAST_PLACE), 0, 7, 15, 7);
        CHECK.ends("P6: place", v -> ten().park(3, v), 0, 0, LAST_PLACE, 7);
        CHECK.ends("P6: the one place", v -> new ParkingEnforcement().park(3, v), 0, 1, 0, 1);
    }

    // "car: 0 to 15", "cents: 1 to 9999"
    private static void promise7() {
        CHECK.ends("P7: car", v -> {
            ParkingEnforcement x = ten();
            x.park(v, LAST_PLACE);
            return x.pay(v, 10);
        }, 0, 5, 15, 5);
        CHECK.ends("P7: cents", v -> {
            ParkingEnforcement x = ten();
            x.park(5, 0);
            return x.pay(5, v);
        }, 1, 1, 9999, 10);
    }

    // "car: 0 to 15"
    private static void promise8Car() {
        CHECK.ends("P8: car", v -> {
            ParkingEnforcement x = ten();
            x.park(v, LAST_PLACE);
            x.advance(3);
            return x.leave(v);
        }, 0, 3, 15, 3);
    }

    // "place: a place"
    private static void promise9Place() {
        CHECK.ends("P9: place", v -> {
            ParkingEnforcement x = parked();
            x.park(7, LAST_PLACE);
            x.advance(1);
            return x.inspect(v);
        }, 0, 1, LAST_PLACE, 2);
    }

    // "car: 0 to 15", "cents: 1 to 99999"
    private static void promise10() {
        CHECK.ends("P10: car", v -> {
            ParkingEnforcement x = clamped();
            return x.payFines(v, 500);
        }, 0, 24000, 15, 24000);
        CHECK.ends("P10: cents", v -> {
            ParkingEnforcement x = clamped();
            return x.payFines(15, v);
        }, 1, 24499, 99999, 0);
    }

    // "zone: 0 to 3", "hour: 0 to 23", "cents: 0 to 999"
    private static void promise12() {
        CHECK.ends("P12: zone", v -> ten().setRate(v, 5, 1), 0, 60, 3, 120);
        CHECK.ends("P12: hour", v -> small().setRate(2, v, 1), 0, 120, 23, 600);
        CHECK.ends("P12: cents", v -> {
            ParkingEnforcement x = small();
            int before = x.setRate(2, 0, v);
            return before == 120 ? x.rate(2, 0) : before;
        }, 0, 0, 999, 999);
    }

    // "index: 0 or 1"
    private static void promises13And14() {
        CHECK.ends("P13: index", v -> {
            ParkingEnforcement x = new ParkingEnforcement();
            x.advance(9);
            return x.saveSnapshot(v);
        }, 0, 9, 1, 9);
        CHECK.ends("P14: index", v -> {
            ParkingEnforcement x = new ParkingEnforcement();
            x.advance(3);
            x.saveSnapshot(0);
            x.advance(5);
            x.saveSnapshot(1);
            return x.restoreSnapshot(v);
        }, 0, 3, 1, 8);
    }

    // "from: a place", "to: a place"; "from: a place", "to: another place"
    private static void promises17And18() {
        CHECK.ends("P17: from", v -> ten().distance(v, LAST_PLACE), 0, 7, LAST_PLACE, 0);
        CHECK.ends("P17: to", v -> ten().distance(4, v), 0, 9, LAST_PLACE, 2);
        CHECK.ends("P17: the one place", v -> new ParkingEnforcement().distance(v, 0), 0, 0, 0, 0);
        CHECK.ends("P18: from", v -> ten().nextOnWay(v, 4), 0, 9, LAST_PLACE, 4);
        CHECK.ends("P18: to", v -> ten().nextOnWay(4, v), 0, 9, LAST_PLACE, 9);
        CHECK.ends("P18: the one place", v -> new ParkingEnforcement().nextOnWay(v, 0), 0, -1, 0, -1);
        for (int place = 0; place <= LAST_PLACE; place++) {
            CHECK.due("P17: both are " + place, ten().distance(place, place), 0);
            CHECK.due("P18: both are " + place, ten().nextOnWay(place, place), -1);
        }
    }

    // "place: a place"; "zone: 0 to 3", "hour: 0 to 23"
    private static void promises19To24() {
        CHECK.ends("P19: place", v -> ten().zone(v), 0, 0, LAST_PLACE, 3);
        CHECK.ends("P20: zone", v -> ten().rate(v, 5), 0, 60, 3, 120);
        CHECK.ends("P20: hour", v -> small().rate(2, v), 0, 120, 23, 600);
        CHECK.ends("P21: zone", v -> ten().longestStay(v), 0, 10, 3, 600);
        CHECK.ends("P22: place", v -> ten().freeSpaces(v), 0, 1, LAST_PLACE, 8);
        CHECK.ends("P23: place", v -> parked().carsAt(v), 0, 1, LAST_PLACE, 1 << 15);
        CHECK.ends("P24: place", v -> ten().poundFree(v), 0, 6, LAST_PLACE, 1);
        ParkingEnforcement one = new ParkingEnforcement();
        CHECK.ends("P19: the one place", one::zone, 0, 0, 0, 0);
        CHECK.ends("P22: the one place", one::freeSpaces, 0, 2, 0, 2);
        CHECK.ends("P23: the one place", one::carsAt, 0, 0, 0, 0);
        CHECK.ends("P24: the one place", one::poundFree, 0, -3, 0, -3);
    }

    // "car: 0 to 15"
    private static void promises26To30And34To37() {
        CHECK.ends("P26: car", v -> parked().state(v), 0, 1, 15, 1);
        CHECK.ends("P27: car", v -> parked().placeOf(v), 0, 0, 15, LAST_PLACE);
        CHECK.ends("P28: car", v -> parked().paidUntil(v), 0, 4, 15, 3);
        CHECK.ends("P29: car", v -> parked().overtime(v), 0, 36, 15, 37);
        CHECK.ends("P30: car", v -> clamped().ticketCount(v), 0, 3, 15, 3);
        CHECK.ends("P34: car", v -> clamped().due(v), 0, 24500, 15, 24500);
        CHECK.ends("P35: car", v -> {
            ParkingEnforcement x = clamped();
            x.payFines(0, 20);
            x.payFines(15, 30);
            return x.credit(v);
        }, 0, 20, 15, 30);
        CHECK.ends("P36: car", v -> clamped().fees(v), 0, 8000, 15, 8000);
        CHECK.ends("P37: car", v -> clamped().clampedSince(v), 0, 280, 15, 281);
        CHECK.ends("P49: car", v -> parked().ticketNow(v), 0, 3000, 15, 3000);
    }

    // "car: 0 to 15", "index: 0 for the oldest ticket of the car"; "if there is no such car or ticket"
    private static void promises31And32() {
        Class<NoSuchElementException> due = NoSuchElementException.class;
        CHECK.endsOrFails("P31: car", due, v -> clamped().ticketAmount(v, 1), 0, 6500, 15, 6500);
        CHECK.endsOrFails("P31: index", due, v -> clamped().ticketAmount(15, v), 0, 3000, 2, 7000);
        CHECK.endsOrFails("P32: car", due, v -> clamped().ticketMinute(v, 2), 0, 280, 15, 281);
        CHECK.endsOrFails("P32: index", due, v -> clamped().ticketMinute(15, v), 0, 40, 2, 281);
    }

    // "Returns true if it exists and is paid."
    private static void promise33() {
        ParkingEnforcement x = clamped();
        x.payFines(0, 99999);
        x.payFines(15, 99999);
        int[] cars = {0, 15};
        for (int car : cars) {
            CHECK.due("P33: the oldest ticket", x.isTicketPaid(car, 0), true);
            CHECK.due("P33: the newest ticket", x.isTicketPaid(car, 2), true);
            CHECK.due("P33: index -1", x.isTicketPaid(car, -1), false);
            CHECK.due("P33: index 3", x.isTicketPaid(car, 3), false);
        }
        CHECK.due("P33: car -1", x.isTicketPaid(-1, 0), false);
        CHECK.due("P33: car 16", x.isTicketPaid(16, 0), false);
        CHECK.due("P33: a car without tickets", x.isTicketPaid(1, 0), false);
    }

    // "index: 0 for the oldest entry"; "Throws IndexOutOfBoundsException if there is no such entry"
    private static void promises40To43() {
        Class<IndexOutOfBoundsException> due = IndexOutOfBoundsException.class;
        CHECK.due("P39: the entries", clamped().logCount(), 12);
        CHECK.endsOrFails("P40: index", due, v -> clamped().logMinute(v), 0, 0, 11, 281);
        CHECK.endsOrFails("P41: index", due, v -> clamped().logKind(v), 0, 1, 11, 5);
        CHECK.endsOrFails("P42: index", due, v -> clamped().logCar(v), 0, 0, 11, 15);
        CHECK.endsOrFails("P43: index", due, v -> clamped().logAmount(v), 0, 0, 11, 8000);
    }

    // "day: 0 to 6", "kind: 2, 4, 5, 6, 7, 8 or 10"
    private static void promise44() {
        ParkingEnforcement x = small();
        x.park(1, 0);
        x.pay(1, 11);
        toDay(x, 6);
        x.pay(1, 22);
        CHECK.ends("P44: day", v -> x.daySum(v, 2), 0, 11, 6, 22);
        int[] kinds = {2, 4, 5, 6, 7, 8, 10};
        int[] others = {Integer.MIN_VALUE, -1, 0, 1, 3, 9, 11, 12, Integer.MAX_VALUE};
        for (int kind : kinds) {
            CHECK.due("P44: kind " + kind, x.daySum(5, kind), 0);
        }
        for (int kind : others) {
            CHECK.due("P44: kind " + kind, x.daySum(5, kind), -1);
        }
    }

    // "place: a place", "start: .. 0 to 10079", "minutes: 0 to 1440"
    private static void promise46() {
        CHECK.ends("P46: place", v -> ten().price(v, 0, 60), 0, 60, LAST_PLACE, 120);
        CHECK.ends("P46: start", v -> small().price(0, v, 1), 0, 2, 10079, 10);
        CHECK.ends("P46: minutes", v -> small().price(0, 0, v), 0, 0, 1440, 720);
    }

    // "place: a place", "minutes: 1 to 600"
    private static void promise47() {
        CHECK.ends("P47: place", v -> {
            ParkingEnforcement x = ten();
            x.setRate(3, 2, 0);
            return x.cheapestStart(v, 60);
        }, 0, 0, LAST_PLACE, 120);
        CHECK.ends("P47: minutes", v -> small().cheapestStart(0, v), 1, 60, 600, 60);
    }

    // "place: a place", "cents: 0 to 9999"
    private static void promise48() {
        CHECK.ends("P48: place", v -> ten().minutesFor(v, 9), 0, 9, LAST_PLACE, 4);
        CHECK.ends("P48: cents", v -> ten().minutesFor(LAST_PLACE, v), 0, 0, 9999, 600);
    }

    // "place: a place", "minutes: 0 to 600"; "the greatest number that is considered, 0 to 120"
    private static void promises50And51() {
        CHECK.ends("P50: place", v -> {
            ParkingEnforcement x = parked();
            x.park(7, LAST_PLACE);
            return x.ticketsAfter(v, 1);
        }, 0, 1, LAST_PLACE, 2);
        CHECK.ends("P50: minutes", v -> {
            ParkingEnforcement x = CHECK.town("places 1;rate 0 10 11 5");
            x.park(3, 0);
            x.advance(1);
            return x.ticketsAfter(0, v);
        }, 0, 0, 600, 1);
        CHECK.ends("P51: place", v -> {
            ParkingEnforcement x = ten();
            x.park(1, 0);
            x.pay(1, 7);
            x.park(2, LAST_PLACE);
            return x.bestInspection(v, 120);
        }, 0, 38, LAST_PLACE, 31);
        CHECK.ends("P51: minutes", v -> {
            ParkingEnforcement x = ten();
            x.park(2, LAST_PLACE);
            x.advance(1);
            return x.bestInspection(LAST_PLACE, v);
        }, 0, 0, 120, 120);
    }

    // "zone: 0 to 3", "day: 0 to 6"; "day: 0 to 6"
    private static void promises52And54() {
        ParkingEnforcement x = parked();
        toDay(x, 6);
        x.pay(0, 8);
        x.leave(0);
        x.pay(15, 22);
        x.park(2, 4);
        CHECK.ends("P52: zone", v -> x.revenue(v, 6), 0, 8, 3, 22);
        CHECK.ends("P52: day", v -> x.revenue(3, v), 0, 6, 6, 22);
        CHECK.ends("P54: day", x::busiestPlace, 0, 0, 6, 4);
    }

    // "place: a place", "minutes: 0 to 600"
    private static void promise53() {
        CHECK.ends("P53: place", v -> parked().paidSoon(v, 0), 0, 1, LAST_PLACE, 1 << 15);
        CHECK.ends("P53: minutes", v -> {
            ParkingEnforcement x = ten();
            x.park(1, LAST_PLACE);
            x.pay(1, 1200);
            return x.paidSoon(LAST_PLACE, v);
        }, 0, 0, 600, 2);
    }

    // "index: 0 for the first trip"; "Throws IndexOutOfBoundsException if there is no such trip"
    private static void promises57And58() {
        ParkingEnforcement x = clamped();
        x.advance(180);
        Class<IndexOutOfBoundsException> due = IndexOutOfBoundsException.class;
        CHECK.due("P55: two trips", x.tourLength(), 2);
        CHECK.endsOrFails("P57: index", due, x::tourCar, 0, 0, 1, 15);
        CHECK.endsOrFails("P58: index", due, x::tourPound, 0, 0, 1, LAST_PLACE);
    }

    // "start: a place", "minutes: 0 to 600"
    private static void promises59To61Start() {
        ParkingEnforcement x = parked();
        CHECK.ends("P59: start", v -> x.patrolValue(v, 11), 0, 3000, LAST_PLACE, 3000);
        CHECK.ends("P60: start", v -> x.patrolSet(v, 11), 0, 1, LAST_PLACE, 1 << LAST_PLACE);
        CHECK.ends("P61: start", v -> x.patrolMinutes(v, 11), 0, 5, LAST_PLACE, 5);
    }

    private static void promises59To61Minutes() {
        ParkingEnforcement x = CHECK.town("places 8;road 0 1 99;road 1 2 99;road 2 3 99;road 3 4 99;road 4 5 99;"
                + "road 5 6 99;road 6 7 1;rate 0 0 24 60");
        x.park(3, 7);
        x.advance(10);
        CHECK.ends("P59: minutes", v -> x.patrolValue(0, v), 0, 0, 600, 1500);
        CHECK.ends("P60: minutes", v -> x.patrolSet(0, v), 0, 0, 600, 128);
        CHECK.ends("P61: minutes", v -> x.patrolMinutes(0, v), 0, 0, 600, 600);
        CHECK.due("P59: a minute less", x.patrolValue(0, 599), 0);
        CHECK.due("P60: a minute less", x.patrolSet(0, 599), 0);
        CHECK.due("P61: a minute less", x.patrolMinutes(0, 599), 0);
    }

    public static void main(String[] args) {
        promise2Value();
        promise5Minutes();
        promise6();
        promise7();
        promise8Car();
        promise9Place();
        promise10();
        promise12();
        promises13And14();
        promises17And18();
        promises19To24();
        promises26To30And34To37();
        promises31And32();
        promise33();
        promises40To43();
        promise44();
        promise46();
        promise47();
        promise48();
        promises50And51();
        promises52And54();
        promise53();
        promises57And58();
        promises59To61Start();
        promises59To61Minutes();
        CHECK.end();
    }
}
