/** Promises 39 to 44, 52 and 54, and LIMIT of every method that logs: the log and its sums. */
public final class LogTest {
    private static final Check CHECK = new Check();

    private static void promises39To43() {
        ParkingEnforcement x = CHECK.town("places 2;rate 0 0 24 60");
        CHECK.due("P39: empty", x.logCount(), 0);
        x.park(14, 1);
        x.advance(3);
        x.pay(14, 2);
        x.advance(4);
        x.leave(14);
        CHECK.due("P39: three", x.logCount(), 3);
        int[][] due = {{0, 1, 14, 1}, {3, 2, 14, 2}, {7, 3, 14, 2}};
        for (int i = 0; i < due.length; i++) {
            CHECK.due("P40: minute", x.logMinute(i), due[i][0]);
            CHECK.due("P41: kind", x.logKind(i), due[i][1]);
            CHECK.due("P42: car", x.logCar(i), due[i][2]);
            CHECK.due("P43: amount", x.logAmount(i), due[i][3]);
        }
        int[] wrong = {-1, 3, 399, 400, Integer.MIN_VALUE, Integer.MAX_VALUE};
        for (int index : wrong) {
            CHECK.fails("P40: " + index, IndexOutOfBoundsException.class, () -> x.logMinute(index));
            CHECK.fails("P41: " + index, IndexOutOfBoundsException.class, () -> x.logKind(index));
            CHECK.fails("P42: " + index, IndexOutOfBoundsException.class, () -> x.logCar(index));
            CHECK.fails("P43: " + index, IndexOutOfBoundsException.class, () -> x.logAmount(index));
        }
    }

    private static void promise44Arguments() {
        ParkingEnforcement x = new ParkingEnforcement();
        for (int kind = -1; kind <= 12; kind++) {
            boolean known = kind == 2 || kind >= 4 && kind <= 8 || kind == 10;
            CHECK.due("P44: kind " + kind, x.daySum(0, kind), known ? 0 : -1);
        }
        CHECK.due("P44: day -1", x.daySum(-1, 2), -1);
        CHECK.due("P44: day 7", x.daySum(7, 2), -1);
        CHECK.due("P44: day 6", x.daySum(6, 2), 0);
    }

    private static void promise44() {
        ParkingEnforcement x = CHECK.town("places 1;rate 0 0 24 60;pound 0 1");
        x.park(0, 0);
        x.pay(0, 20);
        x.pay(0, 30);
        x.advance(1439);
        x.park(1, 0);
        x.pay(1, 7);
        x.inspect(0);
        x.advance(1);
        x.pay(1, 11);
        CHECK.due("P44: the last minute of day 0", x.daySum(0, 2), 57);
        CHECK.due("P44: the first minute of day 1", x.daySum(1, 2), 11);
        CHECK.due("P44: day 2", x.daySum(2, 2), 0);
        CHECK.due("P44: tickets", x.daySum(0, 4), 6000);
        x.advance(119);
        x.inspect(0);
        x.advance(120);
        x.inspect(0);
        CHECK.due("P44: tickets of day 1", x.daySum(1, 4), 6500 + 3000 + 7000 + 6500);
        CHECK.due("P44: clamps", x.daySum(1, 5), 8000);
        x.advance(180);
        x.towNext();
        CHECK.due("P44: tows", x.daySum(1, 10), 15000);
        x.payFines(0, 50000);
        x.payFines(1, 3100);
        CHECK.due("P44: payments", x.daySum(1, 6), 53100);
        CHECK.due("P44: tickets paid", x.daySum(1, 7), 6000 + 6500 + 7000 + 3000);
        CHECK.due("P44: fees paid", x.daySum(1, 8), 23000);
        CHECK.due("P44: none on day 0", x.daySum(0, 8), 0);
    }

    private static void aTowBelongsToTheDayOfItsEnd() {
        ParkingEnforcement x = CHECK.town("places 1;rate 0 0 24 60;pound 0 1");
        x.park(0, 0);
        x.advance(100);
        x.inspect(0);
        x.advance(120);
        x.inspect(0);
        x.advance(120);
        x.inspect(0);
        x.advance(1435 - x.now());
        CHECK.due("P11: over midnight", x.towNext(), 0);
        CHECK.due("P44: not the day before", x.daySum(0, 10), 0);
        CHECK.due("P44: the day of the end", x.daySum(1, 10), 15000);
    }

    private static void promise52() {
        ParkingEnforcement x = CHECK.town("places 3;zone 1 2;zone 2 2;stay 0 600;stay 2 600;rate 0 0 24 60;rate 2 0 24 60");
        CHECK.due("P52: zone -1", x.revenue(-1, 0), -1);
        CHECK.due("P52: zone 4", x.revenue(4, 0), -1);
        CHECK.due("P52: day -1", x.revenue(0, -1), -1);
        CHECK.due("P52: day 7", x.revenue(0, 7), -1);
        x.park(0, 0);
        x.park(1, 1);
        x.pay(0, 5);
        x.pay(1, 70);
        x.leave(0);
        x.park(0, 2);
        x.pay(0, 300);
        x.leave(1);
        x.park(1, 0);
        CHECK.due("P52: zone 0", x.revenue(0, 0), 5);
        CHECK.due("P52: zone 1", x.revenue(1, 0), 0);
        CHECK.due("P52: zone 2", x.revenue(2, 0), 370);
        x.advance(1440);
        x.pay(1, 8);
        x.pay(0, 9);
        CHECK.due("P52: parked the day before, zone 0", x.revenue(0, 1), 8);
        CHECK.due("P52: parked the day before, zone 2", x.revenue(2, 1), 9);
        CHECK.due("P52: the day before stays", x.revenue(2, 0), 370);
        CHECK.due("P52: day 6", x.revenue(2, 6), 0);
    }

    private static void promise52LastZoneAndDay() {
        ParkingEnforcement x = CHECK.town("places 1;zone 0 3;rate 3 0 24 60");
        for (int day = 0; day < 6; day++) {
            x.advance(1440);
        }
        x.park(0, 0);
        x.pay(0, 25);
        CHECK.due("P52: zone 3 on day 6", x.revenue(3, 6), 25);
        CHECK.due("P44: day 6", x.daySum(6, 2), 25);
        CHECK.due("P54: day 6", x.busiestPlace(6), 0);
    }

    private static void promise54() {
        ParkingEnforcement x = CHECK.town("places 4");
        CHECK.due("P54: day -1", x.busiestPlace(-1), -1);
        CHECK.due("P54: day 7", x.busiestPlace(7), -1);
        CHECK.due("P54: none", x.busiestPlace(0), -3);
        x.park(0, 3);
        CHECK.due("P54: one", x.busiestPlace(0), 3);
        x.park(1, 1);
        CHECK.due("P54: the smallest of equal ones", x.busiestPlace(0), 1);
        x.leave(0);
        CHECK.due("P54: only PARK entries", x.busiestPlace(0), 1);
        x.park(0, 3);
        CHECK.due("P54: the most", x.busiestPlace(0), 3);
        x.advance(1440);
        CHECK.due("P54: none on day 1", x.busiestPlace(1), -3);
        x.park(4, 0);
        CHECK.due("P54: day 1", x.busiestPlace(1), 0);
        CHECK.due("P54: day 0", x.busiestPlace(0), 3);
        CHECK.due("P54: day 6", x.busiestPlace(6), -3);
    }

    /** Has eight cars at place 1 that would each get a third ticket and a clamp, and one in place 0's pound. */
    private static ParkingEnforcement busyTown() {
        ParkingEnforcement x = CHECK.town("places 2;spaces 0 3;spaces 1 8;pound 0 2;road 0 1 1;rate 0 0 24 60");
        x.park(15, 0);
        for (int round = 0; round < 3; round++) {
            x.advance(120);
            x.inspect(0);
        }
        for (int car = 0; car < 8; car++) {
            x.park(car, 1);
        }
        for (int round = 0; round < 2; round++) {
            x.advance(120);
            x.inspect(1);
        }
        x.advance(120);
        return x;
    }

    private static void fill(ParkingEnforcement x, int count) {
        FullTown.fill(x, count, 14, 0);
        CHECK.due("P39: filled", x.logCount(), count);
    }

    private static void aCallThatWasBegunBefore() {
        ParkingEnforcement x = busyTown();
        fill(x, 339);
        CHECK.due("P9: eight at 339 entries", x.inspect(1), 8);
        CHECK.due("P39: all are logged", x.logCount(), 339 + 16);
        CHECK.due("P41: the last one", x.logKind(354), 5);
        CHECK.due("P42: the last one", x.logCar(354), 7);
        CHECK.fails("P41: behind it", IndexOutOfBoundsException.class, () -> x.logKind(355));
        CHECK.due("P9: full then", x.inspect(1), -4);
        ParkingEnforcement y = busyTown();
        fill(y, 339);
        CHECK.due("P10: at 339 entries", y.payFines(15, 99999), 0);
        CHECK.due("P39: six entries", y.logCount(), 345);
        CHECK.due("P26: released", y.state(15), 1);
        CHECK.due("P10: full then", y.payFines(0, 100), -4);
    }

    private static void limit() {
        ParkingEnforcement x = busyTown();
        fill(x, 340);
        int parkedCar = x.state(14) == 1 ? 14 : 0;
        CHECK.due("P6: full", x.park(13, 0), -4);
        CHECK.due("P6: no space first", x.park(13, 1), -3);
        CHECK.due("P6: not away first", x.park(0, 0), -2);
        CHECK.due("P6: no car first", x.park(16, 0), -1);
        CHECK.due("P7: full", x.pay(parkedCar, 10), -4);
        CHECK.due("P7: away first", x.pay(12, 10), -2);
        CHECK.due("P7: out of range first", x.pay(parkedCar, 0), -1);
        x.setRate(0, x.now() / 60 % 24, 999);
        CHECK.due("P7: no minute first", x.pay(parkedCar, 1), -3);
        CHECK.due("P8: full", x.leave(parkedCar), -4);
        CHECK.due("P8: away first", x.leave(12), -2);
        CHECK.due("P8: no car first", x.leave(-1), -1);
        CHECK.due("P9: full", x.inspect(1), -4);
        CHECK.due("P9: full, without tickets to write", x.inspect(0), -4);
        CHECK.due("P9: no place first", x.inspect(2), -1);
        CHECK.due("P10: full", x.payFines(15, 100), -4);
        CHECK.due("P10: nothing to pay first", x.payFines(12, 100), -3);
        CHECK.due("P10: out of range first", x.payFines(15, 0), -1);
        CHECK.due("P38: towable", x.towable(), 32768);
        CHECK.due("P55: tour", x.tourLength(), 1);
        int minute = x.now();
        CHECK.due("P11: full", x.towNext(), -4);
        CHECK.due("P11: nothing changed", x.now(), minute);
        CHECK.due("P39: nothing logged", x.logCount(), 340);
        CHECK.due("P35: nothing paid", x.credit(15), 0);
        CHECK.due("P5: advance does not log", x.advance(10), minute + 10);
        CHECK.due("P12: setRate does not log", x.setRate(1, 0, 5), 0);
    }

    private static void noTripBeforeTheFullLog() {
        ParkingEnforcement x = CHECK.town("places 1;pound 0 1");
        fill(x, 340);
        CHECK.due("P11: no trip first", x.towNext(), -3);
    }

    public static void main(String[] args) {
        promises39To43();
        promise44Arguments();
        promise44();
        aTowBelongsToTheDayOfItsEnd();
        promise52();
        promise52LastZoneAndDay();
        promise54();
        aCallThatWasBegunBefore();
        limit();
        noTripBeforeTheFullLog();
        CHECK.end();
    }
}
