import java.util.function.ToIntFunction;

/** What is full: the log, the buffer, a place's spaces, and all cars parked; pounds are in TowingEndsTest. */
public final class FullTest {
    private static final Check CHECK = new Check();

    private static ParkingEnforcement with(int count) {
        return FullTown.withEntries(CHECK, count);
    }

    /** Has 346 entries: an inspection that was begun with 339 of them. */
    private static ParkingEnforcement withMore() {
        ParkingEnforcement x = with(FullTown.FULL - 1);
        CHECK.due("seven tickets", x.inspect(1), 7);
        CHECK.due("346 entries", x.logCount(), 346);
        return x;
    }

    // "The log is full if it has 340 entries or more; then methods that log return LIMIT."
    /** The call is made with 339 entries, with 340 and with 346; the first one is due to log so many entries. */
    private static void logs(String what, ToIntFunction<ParkingEnforcement> call, int answer, int entries) {
        ParkingEnforcement x = with(FullTown.FULL - 1);
        CHECK.due(what + ", 339 entries", call.applyAsInt(x), answer);
        CHECK.due(what + ", 339 entries and those of the call", x.logCount(), FullTown.FULL - 1 + entries);
        ParkingEnforcement y = with(FullTown.FULL);
        CHECK.due(what + ", 340 entries", call.applyAsInt(y), -4);
        CHECK.due(what + ", 340 entries stay", y.logCount(), FullTown.FULL);
        ParkingEnforcement z = withMore();
        CHECK.due(what + ", 346 entries", call.applyAsInt(z), -4);
        CHECK.due(what + ", 346 entries stay", z.logCount(), 346);
    }

    private static void methodsThatLog() {
        logs("P6: park", x -> x.park(FullTown.AWAY, 0), 0, 1);
        logs("P7: pay", x -> x.pay(FullTown.PARKED, 10), 910, 1);
        logs("P8: leave", x -> x.leave(FullTown.PARKED), 180, 1);
        logs("P9: inspect", x -> x.inspect(0), 6, 6);
        logs("P9: inspect, without a ticket", x -> x.inspect(2), 0, 0);
        logs("P10: payFines", x -> x.payFines(FullTown.CLAMPED, 99999), 0, 6);
        logs("P10: payFines, not enough", x -> x.payFines(FullTown.CLAMPED, 1), 22999, 1);
        logs("P11: towNext", x -> x.towNext(), 0, 1);
    }

    // "All entries of a call that was begun before are logged." - the most that a call can log
    private static void theMostEntries() {
        ParkingEnforcement x = CHECK.town("places 2;spaces 0 8;rate 0 0 24 60");
        for (int car = 0; car < 8; car++) {
            x.park(car, 0);
        }
        x.advance(120);
        x.inspect(0);
        x.advance(120);
        x.inspect(0);
        x.advance(120);
        for (int i = 24; i < 339; i++) {
            if (i % 2 == 0) {
                x.park(FullTown.FILLER, 1);
            } else {
                x.leave(FullTown.FILLER);
            }
        }
        CHECK.due("P39: one more is allowed", x.logCount(), 339);
        CHECK.due("P9: eight tickets", x.inspect(0), 8);
        CHECK.due("P39: and eight clamps", x.logCount(), 355);
        for (int car = 0; car < 8; car++) {
            CHECK.due("P41: a ticket", x.logKind(339 + 2 * car), 4);
            CHECK.due("P42: of the car", x.logCar(339 + 2 * car), car);
            CHECK.due("P41: a clamp", x.logKind(340 + 2 * car), 5);
            CHECK.due("P42: of the car", x.logCar(340 + 2 * car), car);
        }
        CHECK.due("P43: the last entry", x.logAmount(354), 8000);
        CHECK.fails("P43: behind it", IndexOutOfBoundsException.class, () -> x.logAmount(355));
        CHECK.due("P44: they count", x.daySum(0, 5), 8 * 8000);
        CHECK.due("P31: the ticket of the last car", x.ticketAmount(7, 2), 7000);
        CHECK.due("P33: nothing is paid", x.payFines(7, 99999), -4);
    }

    // Methods that don't log go on when the log is full.
    private static void methodsThatDoNotLog() {
        ParkingEnforcement x = with(FullTown.FULL);
        CHECK.due("P5: advance", x.advance(1), 901);
        CHECK.due("P12: setRate", x.setRate(0, 3, 7), 60);
        CHECK.due("P13: saveSnapshot", x.saveSnapshot(0), 901);
        CHECK.due("P14: restoreSnapshot", x.restoreSnapshot(0), 901);
        CHECK.due("P39: full with the snapshot", x.park(FullTown.AWAY, 0), -4);
        Check.append(x, "places 2");
        CHECK.due("P3: load", x.load(), 2);
        CHECK.due("P39: empty after load", x.logCount(), 0);
        CHECK.due("P6: not full after load", x.park(FullTown.AWAY, 0), 1);
        CHECK.due("P13: one entry", x.saveSnapshot(1), 0);
        x.restoreSnapshot(0);
        CHECK.due("P39: full again", x.logCount(), FullTown.FULL);
        CHECK.due("P6: full again", x.park(FullTown.AWAY, 0), -4);
        x.restoreSnapshot(1);
        CHECK.due("P8: not full", x.leave(FullTown.AWAY), 0);
    }

    // "a number of parking spaces (0 to 8)"; "NOT_POSSIBLE if the place has no free space"
    private static void spaces() {
        ParkingEnforcement x = CHECK.town("places 3;spaces 0 0;spaces 1 1;spaces 2 8");
        CHECK.due("P22: no space", x.freeSpaces(0), 0);
        CHECK.due("P6: no space", x.park(0, 0), -3);
        CHECK.due("P6: the one space", x.park(0, 1), 0);
        CHECK.due("P6: no other one", x.park(1, 1), -3);
        for (int car = 8; car < 16; car++) {
            CHECK.due("P6: of eight", x.park(car, 2), 15 - car);
        }
        CHECK.due("P22: full", x.freeSpaces(2), 0);
        CHECK.due("P23: full", x.carsAt(2), 0xff00);
        CHECK.due("P6: the ninth", x.park(1, 2), -3);
        CHECK.due("P8: one leaves", x.leave(15), 0);
        CHECK.due("P6: then there is one", x.park(1, 2), 0);
    }

    private static ParkingEnforcement oneClampedSpace() {
        ParkingEnforcement x = CHECK.town("places 1;spaces 0 1;pound 0 1;rate 0 0 24 60");
        x.park(0, 0);
        for (int round = 0; round < 3; round++) {
            x.advance(120);
            x.inspect(0);
        }
        return x;
    }

    // A clamped car takes its space, a towed one does not; a released one takes it still.
    private static void spacesOfClampedCars() {
        ParkingEnforcement x = oneClampedSpace();
        CHECK.due("P22: clamped", x.freeSpaces(0), 0);
        CHECK.due("P6: clamped", x.park(1, 0), -3);
        x.advance(180);
        CHECK.due("P11: towed to the same place", x.towNext(), 0);
        CHECK.due("P22: towed", x.freeSpaces(0), 1);
        CHECK.due("P23: towed", x.carsAt(0), 0);
        CHECK.due("P27: towed", x.placeOf(0), 0);
        CHECK.due("P6: towed", x.park(1, 0), 0);
        ParkingEnforcement y = oneClampedSpace();
        y.payFines(0, 99999);
        CHECK.due("P22: released", y.freeSpaces(0), 0);
        CHECK.due("P23: released", y.carsAt(0), 1);
    }

    // "There are 16 cars, numbered from 0."
    private static void sixteenCars() {
        ParkingEnforcement x = CHECK.town("places 2;spaces 0 8;spaces 1 8;rate 0 0 24 60");
        for (int car = 0; car < 16; car++) {
            CHECK.due("P6: car " + car, x.park(car, car % 2), 7 - car / 2);
        }
        CHECK.due("P23: the even ones", x.carsAt(0), 0x5555);
        CHECK.due("P23: the odd ones", x.carsAt(1), 0xaaaa);
        CHECK.due("P53: the odd ones", x.paidSoon(1, 0), 0xaaaa);
        x.advance(1);
        CHECK.due("P9: eight", x.inspect(0), 8);
        CHECK.due("P9: eight", x.inspect(1), 8);
        CHECK.due("P45: sixteen", x.owedInAll(), 16 * 1500);
        x.advance(120);
        x.inspect(0);
        x.inspect(1);
        x.advance(120);
        x.inspect(0);
        x.inspect(1);
        x.advance(180);
        CHECK.due("P38: sixteen", x.towable(), 0xffff);
        CHECK.due("P6: no seventeenth", x.park(16, 0), -1);
    }

    // "INVALID if value is out of range or the buffer holds 600 bytes" - more calls than an object is promised for
    private static void theBuffer() {
        ParkingEnforcement x = new ParkingEnforcement();
        Check.append(x, "places 5" + " ".repeat(591));
        CHECK.due("P2: the last byte", x.appendByte(' '), 600);
        CHECK.due("P2: a full buffer", x.appendByte(' '), -1);
        CHECK.due("P3: all 600 are read", x.load(), 5);
        CHECK.due("P2: the first byte again", x.appendByte(' '), 1);
        ParkingEnforcement y = new ParkingEnforcement();
        Check.append(y, "places 5" + " ".repeat(591) + ";");
        CHECK.due("P2: a full buffer that ends too early", y.appendByte('x'), -1);
        CHECK.due("P3: the greatest position", y.load(), -700);
    }

    // "An object is used for at most 512 calls after it has been made": the last of them answers as the first
    private static void theLastCall() {
        ParkingEnforcement x = CHECK.town("places 1;rate 0 0 24 60");
        for (int call = 24; call < 510; call++) {
            x.appendByte(call % 256);
        }
        CHECK.due("P6: call 511", x.park(3, 0), 1);
        CHECK.due("P7: call 512", x.pay(3, 60), 60);
    }

    public static void main(String[] args) {
        methodsThatLog();
        theMostEntries();
        methodsThatDoNotLog();
        spaces();
        spacesOfClampedCars();
        sixteenCars();
        theBuffer();
        theLastCall();
        CHECK.end();
    }
}
