import java.util.List;
import java.util.NoSuchElementException;
import java.util.function.Consumer;
import java.util.function.Supplier;
import java.util.function.ToIntFunction;

/** "A method that returns an error or throws .. changes nothing"; "the one that is named first .. is returned". */
public final class RefusedTest {
    private static final Check CHECK = new Check();

    /** An object in one state, made anew for each refused call, and all that can be asked of it. */
    private static final class Scene {
        final Supplier<ParkingEnforcement> maker;
        final List<String> whole;

        Scene(Supplier<ParkingEnforcement> maker) {
            this.maker = maker;
            whole = Look.whole(maker.get());
        }

        void refuses(String what, int due, ToIntFunction<ParkingEnforcement> call) {
            ParkingEnforcement x = maker.get();
            CHECK.due(what, call.applyAsInt(x), due);
            CHECK.due(what + " changes nothing", Look.whole(x), whole);
        }

        void throwsOut(String what, Class<? extends RuntimeException> due, Consumer<ParkingEnforcement> call) {
            ParkingEnforcement x = maker.get();
            CHECK.fails(what, due, () -> call.accept(x));
            CHECK.due(what + " changes nothing", Look.whole(x), whole);
        }
    }

    private static final int[] NO_CARS = {-1, 16, Integer.MIN_VALUE, Integer.MAX_VALUE};
    private static final int[] NO_PLACES = {-1, 4, 10, Integer.MIN_VALUE, Integer.MAX_VALUE};
    private static final int[] NO_ZONES = {-1, 4, Integer.MIN_VALUE, Integer.MAX_VALUE};
    private static final int[] NO_HOURS = {-1, 24, Integer.MIN_VALUE, Integer.MAX_VALUE};
    private static final int[] NO_DAYS = {-1, 7, Integer.MIN_VALUE, Integer.MAX_VALUE};

    private static final Scene BUSY = new Scene(RefusedTest::busy);
    private static final Scene LATE = new Scene(RefusedTest::late);
    private static final Scene FULL = new Scene(() -> FullTown.withEntries(CHECK, FullTown.FULL));
    private static final Scene NEW = new Scene(ParkingEnforcement::new);

    private static ParkingEnforcement busy() {
        return BusyTown.make(CHECK);
    }

    /** The busy scene in minute 10066, in which a trip of 14 minutes is too long. */
    private static ParkingEnforcement late() {
        ParkingEnforcement x = busy();
        for (int day = 0; day < 6; day++) {
            x.advance(1440);
        }
        x.advance(10066 - x.now());
        return x;
    }

    private static void theScenes() {
        ParkingEnforcement x = busy();
        int[] states = {3, 2, 0, 1, 1, 1, 0};
        for (int car = 0; car < states.length; car++) {
            CHECK.due("state of " + car, x.state(car), states[car]);
        }
        CHECK.due("minute", x.now(), 550);
        CHECK.due("no space", x.freeSpaces(2), 0);
        CHECK.due("the pound is full", x.poundFree(0), 0);
        CHECK.due("credit", x.credit(BusyTown.PAID_AND_AWAY), 500);
        CHECK.due("towable", x.towable(), 2);
        CHECK.due("the trip", x.tourMinutes(), 14);
        CHECK.due("error", x.loadError(), 3);
        CHECK.due("buffer", x.appendByte(' '), 19);
        ParkingEnforcement y = FullTown.withEntries(CHECK, FullTown.FULL);
        CHECK.due("clamped", y.state(FullTown.CLAMPED), 2);
        CHECK.due("parked", y.state(FullTown.PARKED), 1);
        CHECK.due("away", y.state(FullTown.AWAY), 0);
        CHECK.due("full", y.freeSpaces(1), 0);
        CHECK.due("a trip", y.tourLength(), 1);
    }

    // Promise 2: "INVALID if value is out of range"
    private static void appendByte() {
        int[] values = {-1, 256, Integer.MIN_VALUE, Integer.MAX_VALUE};
        for (int value : values) {
            BUSY.refuses("P2: value " + value, -1, x -> x.appendByte(value));
        }
    }

    /** The error is at the mark !, which is not a part of the text; 18 bytes are in the buffer already. */
    private static void loads(String marked, int error) {
        ParkingEnforcement x = busy();
        int mark = marked.indexOf('!');
        String more = marked.substring(0, mark) + marked.substring(mark + 1);
        Check.append(x, more);
        CHECK.due("P3: load with " + more, x.load(), -100 - 18 - mark);
        CHECK.due("P4: loadError with " + more, x.loadError(), error);
        CHECK.due("P3: the buffer is emptied by " + more, x.appendByte(' '), 1);
        CHECK.due("P3: the town stays with " + more, Look.town(x), Look.town(busy()));
        CHECK.due("P3: the snapshots stay with " + more, Look.slots(x), Look.slots(busy()));
    }

    // Promise 3: "on an error -100 - p, where p is the position of the error, and then nothing else changes"
    private static void load() {
        loads("!", 1);
        loads("!x", 1);
        loads("5;rate 0 0 24 !1000", 2);
        loads("5;pound 1 6;spaces 0 8;stay 0 600;zone 0 3;road 0 !0 1", 3);
    }

    // Promise 5: "Throws IllegalArgumentException if minutes is out of range"; "LIMIT if .. greater than 10079"
    private static void advance() {
        int[] wrong = {-1, 1441, Integer.MIN_VALUE, Integer.MAX_VALUE};
        for (int minutes : wrong) {
            BUSY.throwsOut("P5: " + minutes, IllegalArgumentException.class, x -> x.advance(minutes));
            LATE.throwsOut("P5: late, " + minutes, IllegalArgumentException.class, x -> x.advance(minutes));
        }
        int[] late = {14, 15, 1440};
        for (int minutes : late) {
            LATE.refuses("P5: to minute " + (10066 + minutes), -4, x -> x.advance(minutes));
        }
    }

    // Promise 6: "INVALID if there is no such car or place; WRONG_STATE if the car is not away; NOT_POSSIBLE if the
    // place has no free space; LIMIT."
    private static void park() {
        for (int car : NO_CARS) {
            BUSY.refuses("P6: no car", -1, x -> x.park(car, 0));
            BUSY.refuses("P6: no car, and no space", -1, x -> x.park(car, 2));
        }
        for (int place : NO_PLACES) {
            BUSY.refuses("P6: no place", -1, x -> x.park(BusyTown.AWAY, place));
            BUSY.refuses("P6: no place, and not away", -1, x -> x.park(BusyTown.PARKED, place));
        }
        int[] notAway = {BusyTown.POUNDED, BusyTown.CLAMPED, BusyTown.OVERDUE, BusyTown.PARKED};
        for (int car : notAway) {
            BUSY.refuses("P6: not away", -2, x -> x.park(car, 1));
            BUSY.refuses("P6: not away, and no space", -2, x -> x.park(car, 2));
        }
        BUSY.refuses("P6: no space", -3, x -> x.park(BusyTown.AWAY, 2));
        FULL.refuses("P6: full", -4, x -> x.park(FullTown.AWAY, 0));
        FULL.refuses("P6: full, and no space", -3, x -> x.park(FullTown.AWAY, 1));
        FULL.refuses("P6: full, and not away", -2, x -> x.park(FullTown.PARKED, 0));
        FULL.refuses("P6: full, and no car", -1, x -> x.park(16, 0));
        FULL.refuses("P6: full, and no place", -1, x -> x.park(FullTown.AWAY, 3));
    }

    // Promise 7: "INVALID if an argument is out of range; WRONG_STATE if the car is not parked; NOT_POSSIBLE if the
    // money buys no minute; LIMIT."
    private static void pay() {
        for (int car : NO_CARS) {
            BUSY.refuses("P7: no car", -1, x -> x.pay(car, 10));
        }
        int[] wrong = {0, -1, 10000, Integer.MIN_VALUE, Integer.MAX_VALUE};
        for (int cents : wrong) {
            BUSY.refuses("P7: cents", -1, x -> x.pay(BusyTown.PARKED, cents));
            BUSY.refuses("P7: cents, and not parked", -1, x -> x.pay(BusyTown.AWAY, cents));
            FULL.refuses("P7: cents, and full", -1, x -> x.pay(FullTown.PARKED, cents));
        }
        int[] notParked = {BusyTown.POUNDED, BusyTown.CLAMPED, BusyTown.PAID_AND_AWAY, BusyTown.AWAY};
        for (int car : notParked) {
            BUSY.refuses("P7: not parked", -2, x -> x.pay(car, 10));
        }
        BUSY.refuses("P7: no minute", -3, x -> x.pay(BusyTown.OVERDUE, 1));
        FULL.refuses("P7: full", -4, x -> x.pay(FullTown.PARKED, 10));
        FULL.refuses("P7: full, and not parked", -2, x -> x.pay(FullTown.AWAY, 10));
        Scene dear = new Scene(() -> {
            ParkingEnforcement x = FullTown.withEntries(CHECK, FullTown.FULL);
            x.setRate(0, x.now() / 60, 61);
            return x;
        });
        dear.refuses("P7: full, and no minute", -3, x -> x.pay(FullTown.PARKED, 1));
    }

    // Promise 8: "INVALID if there is no such car; WRONG_STATE if it is not parked; LIMIT."
    private static void leave() {
        for (int car : NO_CARS) {
            BUSY.refuses("P8: no car", -1, x -> x.leave(car));
            FULL.refuses("P8: no car, and full", -1, x -> x.leave(car));
        }
        int[] notParked = {BusyTown.POUNDED, BusyTown.CLAMPED, BusyTown.PAID_AND_AWAY, BusyTown.AWAY};
        for (int car : notParked) {
            BUSY.refuses("P8: not parked", -2, x -> x.leave(car));
        }
        FULL.refuses("P8: full", -4, x -> x.leave(FullTown.PARKED));
        FULL.refuses("P8: full, and not parked", -2, x -> x.leave(FullTown.CLAMPED));
    }

    // Promise 9: "INVALID if there is no such place; LIMIT."
    private static void inspect() {
        for (int place : NO_PLACES) {
            BUSY.refuses("P9: no place", -1, x -> x.inspect(place));
            FULL.refuses("P9: no place, and full", -1, x -> x.inspect(place));
        }
        FULL.refuses("P9: full", -4, x -> x.inspect(1));
        FULL.refuses("P9: full, and nothing to write", -4, x -> x.inspect(2));
    }

    // Promise 10: "INVALID if an argument is out of range; NOT_POSSIBLE if the car has no unpaid ticket and no fees;
    // LIMIT."
    private static void payFines() {
        for (int car : NO_CARS) {
            BUSY.refuses("P10: no car", -1, x -> x.payFines(car, 1));
        }
        int[] wrong = {0, -1, 100000, Integer.MIN_VALUE, Integer.MAX_VALUE};
        for (int cents : wrong) {
            BUSY.refuses("P10: cents", -1, x -> x.payFines(BusyTown.CLAMPED, cents));
            BUSY.refuses("P10: cents, and nothing to pay", -1, x -> x.payFines(BusyTown.AWAY, cents));
            FULL.refuses("P10: cents, and full", -1, x -> x.payFines(FullTown.CLAMPED, cents));
        }
        int[] nothingToPay = {BusyTown.PAID_AND_AWAY, BusyTown.OVERDUE, BusyTown.PARKED, BusyTown.AWAY};
        for (int car : nothingToPay) {
            BUSY.refuses("P10: nothing to pay", -3, x -> x.payFines(car, 99999));
        }
        FULL.refuses("P10: full", -4, x -> x.payFines(FullTown.CLAMPED, 99999));
        FULL.refuses("P10: full, and nothing to pay", -3, x -> x.payFines(FullTown.AWAY, 1));
    }

    // Promise 11: "NOT_POSSIBLE if the best tour has no trip; LIMIT if the log is full or the minute would be greater"
    private static void towNext() {
        NEW.refuses("P11: no pound", -3, x -> x.towNext());
        LATE.refuses("P11: to minute 10080", -4, x -> x.towNext());
        FULL.refuses("P11: full", -4, x -> x.towNext());
        Scene noTrip = new Scene(() -> {
            ParkingEnforcement x = late();
            x.payFines(BusyTown.CLAMPED, 99999);
            return x;
        });
        noTrip.refuses("P11: late, and no trip", -3, x -> x.towNext());
        Scene noTripAndFull = new Scene(() -> {
            ParkingEnforcement x = FullTown.withEntries(CHECK, FullTown.FULL - 1);
            x.payFines(FullTown.CLAMPED, 99999);
            return x;
        });
        noTripAndFull.refuses("P11: full, and no trip", -3, x -> x.towNext());
    }

    // Promise 12: "INVALID if an argument is out of range."
    private static void setRate() {
        for (int zone : NO_ZONES) {
            BUSY.refuses("P12: zone", -1, x -> x.setRate(zone, 0, 5));
        }
        for (int hour : NO_HOURS) {
            BUSY.refuses("P12: hour", -1, x -> x.setRate(0, hour, 5));
        }
        int[] wrong = {-1, 1000, Integer.MIN_VALUE, Integer.MAX_VALUE};
        for (int cents : wrong) {
            BUSY.refuses("P12: cents", -1, x -> x.setRate(0, 0, cents));
        }
    }

    // Promises 13 and 14: "INVALID if index is out of range; NOT_POSSIBLE if nothing was saved there."
    private static void snapshots() {
        int[] wrong = {-1, 2, Integer.MIN_VALUE, Integer.MAX_VALUE};
        for (int index : wrong) {
            BUSY.refuses("P13: index", -1, x -> x.saveSnapshot(index));
            BUSY.refuses("P14: index", -1, x -> x.restoreSnapshot(index));
        }
        BUSY.refuses("P14: nothing saved", -3, x -> x.restoreSnapshot(1));
        NEW.refuses("P14: nothing saved, new", -3, x -> x.restoreSnapshot(0));
    }

    // Promises 17 to 24: "INVALID if there is no such place"; "NOT_POSSIBLE if there is no way"
    private static void questionsOfTheTown() {
        for (int place : NO_PLACES) {
            BUSY.refuses("P17: from", -1, x -> x.distance(place, 0));
            BUSY.refuses("P17: to", -1, x -> x.distance(0, place));
            BUSY.refuses("P17: to, without a way", -1, x -> x.distance(2, place));
            BUSY.refuses("P18: from", -1, x -> x.nextOnWay(place, 0));
            BUSY.refuses("P18: to", -1, x -> x.nextOnWay(0, place));
            BUSY.refuses("P18: both", -1, x -> x.nextOnWay(place, place));
            BUSY.refuses("P19: place", -1, x -> x.zone(place));
            BUSY.refuses("P22: place", -1, x -> x.freeSpaces(place));
            BUSY.refuses("P23: place", -1, x -> x.carsAt(place));
            BUSY.refuses("P24: place", -1, x -> x.poundFree(place));
        }
        for (int zone : NO_ZONES) {
            BUSY.refuses("P20: zone", -1, x -> x.rate(zone, 0));
            BUSY.refuses("P21: zone", -1, x -> x.longestStay(zone));
        }
        for (int hour : NO_HOURS) {
            BUSY.refuses("P20: hour", -1, x -> x.rate(0, hour));
        }
        BUSY.refuses("P17: no way", -3, x -> x.distance(0, 2));
        BUSY.refuses("P17: no way back", -3, x -> x.distance(3, 1));
        BUSY.refuses("P18: both are the same", -1, x -> x.nextOnWay(2, 2));
        BUSY.refuses("P18: no way", -3, x -> x.nextOnWay(0, 2));
        BUSY.refuses("P24: no pound", -3, x -> x.poundFree(2));
        NEW.refuses("P25: no pound", -3, x -> x.truck());
    }

    // Promises 26 to 37 and 49: "INVALID if there is no such car; WRONG_STATE if it is not .."
    private static void questionsOfACar() {
        for (int car : NO_CARS) {
            BUSY.refuses("P26: no car", -1, x -> x.state(car));
            BUSY.refuses("P27: no car", -1, x -> x.placeOf(car));
            BUSY.refuses("P28: no car", -1, x -> x.paidUntil(car));
            BUSY.refuses("P29: no car", -1, x -> x.overtime(car));
            BUSY.refuses("P30: no car", -1, x -> x.ticketCount(car));
            BUSY.refuses("P34: no car", -1, x -> x.due(car));
            BUSY.refuses("P35: no car", -1, x -> x.credit(car));
            BUSY.refuses("P36: no car", -1, x -> x.fees(car));
            BUSY.refuses("P37: no car", -1, x -> x.clampedSince(car));
            BUSY.refuses("P49: no car", -1, x -> x.ticketNow(car));
        }
        int[] notParked = {BusyTown.POUNDED, BusyTown.CLAMPED, BusyTown.PAID_AND_AWAY, BusyTown.AWAY};
        for (int car : notParked) {
            BUSY.refuses("P28: not parked", -2, x -> x.paidUntil(car));
            BUSY.refuses("P29: not parked", -2, x -> x.overtime(car));
        }
        int[] notClamped = {BusyTown.POUNDED, BusyTown.PAID_AND_AWAY, BusyTown.OVERDUE, BusyTown.PARKED, BusyTown.AWAY};
        for (int car : notClamped) {
            BUSY.refuses("P37: not clamped", -2, x -> x.clampedSince(car));
        }
        BUSY.refuses("P27: away", -2, x -> x.placeOf(BusyTown.AWAY));
        BUSY.refuses("P27: away, with tickets", -2, x -> x.placeOf(BusyTown.PAID_AND_AWAY));
    }

    // Promises 31, 32, 40 to 43, 57 and 58: "Throws .. if there is no such car or ticket", ".. entry", ".. trip"
    private static void exceptions() {
        Class<NoSuchElementException> none = NoSuchElementException.class;
        for (int car : NO_CARS) {
            BUSY.throwsOut("P31: no car", none, x -> x.ticketAmount(car, 0));
            BUSY.throwsOut("P32: no car", none, x -> x.ticketMinute(car, 0));
        }
        Class<IndexOutOfBoundsException> outside = IndexOutOfBoundsException.class;
        int[] wrong = {-1, 3, 21, 339, 340, 400, Integer.MIN_VALUE, Integer.MAX_VALUE};
        for (int index : wrong) {
            BUSY.throwsOut("P31: no ticket", none, x -> x.ticketAmount(BusyTown.CLAMPED, index));
            BUSY.throwsOut("P32: no ticket", none, x -> x.ticketMinute(BusyTown.CLAMPED, index));
            BUSY.throwsOut("P57: no trip", outside, x -> x.tourCar(index));
            BUSY.throwsOut("P58: no trip", outside, x -> x.tourPound(index));
            int entry = index == 3 ? 22 : index;
            BUSY.throwsOut("P40: no entry", outside, x -> x.logMinute(entry));
            BUSY.throwsOut("P41: no entry", outside, x -> x.logKind(entry));
            BUSY.throwsOut("P42: no entry", outside, x -> x.logCar(entry));
            BUSY.throwsOut("P43: no entry", outside, x -> x.logAmount(entry));
        }
        FULL.throwsOut("P40: full", outside, x -> x.logMinute(340));
        FULL.throwsOut("P41: full", outside, x -> x.logKind(340));
        FULL.throwsOut("P42: full", outside, x -> x.logCar(340));
        FULL.throwsOut("P43: full", outside, x -> x.logAmount(340));
    }

    // Promises 44, 46 to 48 and 50 to 54: "INVALID if an argument is out of range"
    private static void otherQuestions() {
        for (int place : NO_PLACES) {
            BUSY.refuses("P46: place", -1, x -> x.price(place, 0, 0));
            BUSY.refuses("P47: place", -1, x -> x.cheapestStart(place, 1));
            BUSY.refuses("P48: place", -1, x -> x.minutesFor(place, 0));
            BUSY.refuses("P50: place", -1, x -> x.ticketsAfter(place, 0));
            BUSY.refuses("P51: place", -1, x -> x.bestInspection(place, 0));
            BUSY.refuses("P53: place", -1, x -> x.paidSoon(place, 0));
        }
        for (int day : NO_DAYS) {
            BUSY.refuses("P44: day", -1, x -> x.daySum(day, 2));
            BUSY.refuses("P52: day", -1, x -> x.revenue(0, day));
            BUSY.refuses("P54: day", -1, x -> x.busiestPlace(day));
        }
        for (int zone : NO_ZONES) {
            BUSY.refuses("P52: zone", -1, x -> x.revenue(zone, 0));
        }
        int[] noKinds = {0, 1, 3, 9, 11, -1, Integer.MIN_VALUE, Integer.MAX_VALUE};
        for (int kind : noKinds) {
            BUSY.refuses("P44: kind", -1, x -> x.daySum(0, kind));
        }
        BUSY.refuses("P46: start -1", -1, x -> x.price(0, -1, 0));
        BUSY.refuses("P46: start 10080", -1, x -> x.price(0, 10080, 0));
        BUSY.refuses("P46: minutes -1", -1, x -> x.price(0, 0, -1));
        BUSY.refuses("P46: minutes 1441", -1, x -> x.price(0, 0, 1441));
        BUSY.refuses("P47: minutes 0", -1, x -> x.cheapestStart(0, 0));
        BUSY.refuses("P47: minutes 601", -1, x -> x.cheapestStart(0, 601));
        BUSY.refuses("P48: cents -1", -1, x -> x.minutesFor(0, -1));
        BUSY.refuses("P48: cents 10000", -1, x -> x.minutesFor(0, 10000));
        BUSY.refuses("P50: minutes -1", -1, x -> x.ticketsAfter(0, -1));
        BUSY.refuses("P50: minutes 601", -1, x -> x.ticketsAfter(0, 601));
        BUSY.refuses("P51: minutes -1", -1, x -> x.bestInspection(0, -1));
        BUSY.refuses("P51: minutes 121", -1, x -> x.bestInspection(0, 121));
        BUSY.refuses("P53: minutes -1", -1, x -> x.paidSoon(0, -1));
        BUSY.refuses("P53: minutes 601", -1, x -> x.paidSoon(0, 601));
        BUSY.refuses("P54: a day without an entry", -3, x -> x.busiestPlace(1));
    }

    // Promises 59 to 61: "INVALID if an argument is out of range."
    private static void patrols() {
        for (int place : NO_PLACES) {
            BUSY.refuses("P59: start", -1, x -> x.patrolValue(place, 0));
            BUSY.refuses("P60: start", -1, x -> x.patrolSet(place, 0));
            BUSY.refuses("P61: start", -1, x -> x.patrolMinutes(place, 0));
        }
        int[] wrong = {-1, 601, Integer.MIN_VALUE, Integer.MAX_VALUE};
        for (int minutes : wrong) {
            BUSY.refuses("P59: minutes", -1, x -> x.patrolValue(0, minutes));
            BUSY.refuses("P60: minutes", -1, x -> x.patrolSet(0, minutes));
            BUSY.refuses("P61: minutes", -1, x -> x.patrolMinutes(0, minutes));
        }
    }

    public static void main(String[] args) {
        theScenes();
        appendByte();
        load();
        advance();
        park();
        pay();
        leave();
        inspect();
        payFines();
        towNext();
        setRate();
        snapshots();
        questionsOfTheTown();
        questionsOfACar();
        exceptions();
        otherQuestions();
        patrols();
        CHECK.end();
    }
}
