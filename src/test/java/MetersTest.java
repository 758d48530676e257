/** Promises 5 to 8, 15, 22, 23, 26 to 29, 46 to 48 and 53: time, parked cars and meters. */
public final class MetersTest {
    private static final Check CHECK = new Check();

    private static void promises5And15() {
        ParkingEnforcement x = new ParkingEnforcement();
        CHECK.due("P5: 0", x.advance(0), 0);
        CHECK.due("P5: 1440", x.advance(1440), 1440);
        CHECK.due("P15: now", x.now(), 1440);
        CHECK.fails("P5: -1", IllegalArgumentException.class, () -> x.advance(-1));
        CHECK.fails("P5: 1441", IllegalArgumentException.class, () -> x.advance(1441));
        CHECK.fails("P5: greatest", IllegalArgumentException.class, () -> x.advance(Integer.MAX_VALUE));
        CHECK.due("P5: nothing changed", x.now(), 1440);
        for (int day = 2; day <= 6; day++) {
            CHECK.due("P5: day", x.advance(1440), day * 1440);
        }
        CHECK.due("P5: beyond the end", x.advance(1440), -4);
        CHECK.due("P5: to the end", x.advance(1439), 10079);
        CHECK.due("P5: at the end", x.advance(1), -4);
        CHECK.due("P5: stay at the end", x.advance(0), 10079);
        CHECK.due("P15: the end", x.now(), 10079);
        CHECK.fails("P5: 1441 at the end", IllegalArgumentException.class, () -> x.advance(1441));
    }

    private static void promise6() {
        ParkingEnforcement x = CHECK.town("places 3;spaces 0 1;spaces 1 0;spaces 2 8");
        CHECK.due("P6: car -1", x.park(-1, 0), -1);
        CHECK.due("P6: car 16", x.park(16, 0), -1);
        CHECK.due("P6: place -1", x.park(0, -1), -1);
        CHECK.due("P6: place 3", x.park(0, 3), -1);
        CHECK.due("P6: no space", x.park(0, 1), -3);
        x.advance(7);
        CHECK.due("P6: the last space", x.park(15, 0), 0);
        CHECK.due("P6: not away", x.park(15, 2), -2);
        CHECK.due("P6: not away, and no space", x.park(15, 1), -2);
        CHECK.due("P6: not away, and no place", x.park(15, 3), -1);
        CHECK.due("P6: none left", x.park(0, 0), -3);
        CHECK.due("P26: parked", x.state(15), 1);
        CHECK.due("P27: place", x.placeOf(15), 0);
        CHECK.due("P28: paid until now", x.paidUntil(15), 7);
        CHECK.due("P6: of eight", x.park(3, 2), 7);
        CHECK.due("P6: of eight", x.park(1, 2), 6);
        CHECK.due("P22: free", x.freeSpaces(2), 6);
        CHECK.due("P22: none free", x.freeSpaces(0), 0);
        CHECK.due("P22: no spaces", x.freeSpaces(1), 0);
        CHECK.due("P22: -1", x.freeSpaces(-1), -1);
        CHECK.due("P22: 3", x.freeSpaces(3), -1);
        CHECK.due("P23: cars", x.carsAt(2), 10);
        CHECK.due("P23: car 15", x.carsAt(0), 32768);
        CHECK.due("P23: none", x.carsAt(1), 0);
        CHECK.due("P23: -1", x.carsAt(-1), -1);
        CHECK.due("P23: 3", x.carsAt(3), -1);
        CHECK.due("P6: logged thrice", x.logCount(), 3);
        CHECK.due("P6: minute", x.logMinute(0), 7);
        CHECK.due("P6: kind", x.logKind(0), 1);
        CHECK.due("P6: car", x.logCar(0), 15);
        CHECK.due("P6: place 0", x.logAmount(0), 0);
        CHECK.due("P6: place 2", x.logAmount(1), 2);
    }

    private static void promise7() {
        ParkingEnforcement x = CHECK.town("places 1;rate 0 0 1 100;rate 0 1 2 40;stay 0 90");
        CHECK.due("P7: away", x.pay(2, 10), -2);
        CHECK.due("P7: away, 0 cents", x.pay(2, 0), -1);
        x.park(2, 0);
        CHECK.due("P7: car -1", x.pay(-1, 10), -1);
        CHECK.due("P7: car 16", x.pay(16, 10), -1);
        CHECK.due("P7: 0 cents", x.pay(2, 0), -1);
        CHECK.due("P7: 10000 cents", x.pay(2, 10000), -1);
        CHECK.due("P7: less than a minute", x.pay(2, 1), -3);
        CHECK.due("P7: nothing logged", x.logCount(), 1);
        CHECK.due("P7: 10 cents are six minutes", x.pay(2, 10), 6);
        CHECK.due("P7: the rest is lost, 2 cents are one minute", x.pay(2, 2), 7);
        x.advance(50);
        CHECK.due("P7: from now, into the cheaper hour", x.pay(2, 18), 62);
        CHECK.due("P7: from there on", x.pay(2, 2), 65);
        CHECK.due("P7: to the longest stay", x.pay(2, 9999), 140);
        CHECK.due("P7: no more than the longest stay", x.pay(2, 9999), -3);
        x.advance(1);
        CHECK.due("P7: one minute more, for nothing an hour", x.pay(2, 1), 141);
        CHECK.due("P28: paid", x.paidUntil(2), 141);
        CHECK.due("P7: logged", x.logCount(), 7);
        CHECK.due("P7: kind", x.logKind(1), 2);
        CHECK.due("P7: amount is all the money", x.logAmount(2), 2);
        CHECK.due("P7: amount", x.logAmount(5), 9999);
        CHECK.due("P7: minute", x.logMinute(6), 51);
    }

    private static void payInAnotherZoneAndBehindTheEnd() {
        ParkingEnforcement x = CHECK.town("places 2;zone 1 2;rate 2 0 1 120;rate 2 23 24 60;stay 2 30");
        x.park(5, 1);
        CHECK.due("P7: rate of the zone", x.pay(5, 20), 10);
        for (int day = 0; day < 6; day++) {
            x.advance(1440);
        }
        x.advance(1439 - 9);
        CHECK.due("P7: ten minutes at 1, then 2 a minute", x.pay(5, 20), 10070 + 15);
        x.advance(9);
        CHECK.due("P7: at the end", x.pay(5, 9999), 10079 + 30);
        CHECK.due("P48: at the end", x.minutesFor(1, 21), 11);
    }

    private static void promises8And29() {
        ParkingEnforcement x = CHECK.town("places 2;zone 1 1;rate 0 1 2 60;rate 1 0 24 10");
        CHECK.due("P8: car -1", x.leave(-1), -1);
        CHECK.due("P8: car 16", x.leave(16), -1);
        CHECK.due("P8: away", x.leave(0), -2);
        CHECK.due("P29: away", x.overtime(0), -2);
        CHECK.due("P29: car 16", x.overtime(16), -1);
        CHECK.due("P29: car -1", x.overtime(-1), -1);
        x.park(0, 0);
        x.park(1, 1);
        CHECK.due("P29: at once", x.overtime(1), 0);
        x.advance(60);
        CHECK.due("P29: an hour without a rate", x.overtime(0), 0);
        CHECK.due("P29: an hour with a rate", x.overtime(1), 60);
        x.advance(1);
        CHECK.due("P29: the first minute with a rate", x.overtime(0), 1);
        x.advance(100);
        CHECK.due("P29: the hour is over", x.overtime(0), 60);
        x.advance(1440);
        CHECK.due("P29: a day on", x.overtime(0), 120);
        CHECK.due("P29: every minute", x.overtime(1), 1601);
        CHECK.due("P28: paid until", x.paidUntil(0), 0);
        x.setRate(0, 0, 1);
        CHECK.due("P29: the rates of now count", x.overtime(0), 240);
        CHECK.due("P8: overtime", x.leave(0), 240);
        CHECK.due("P26: away", x.state(0), 0);
        CHECK.due("P22: its space is free", x.freeSpaces(0), 2);
        CHECK.due("P8: kind", x.logKind(2), 3);
        CHECK.due("P8: car", x.logCar(2), 0);
        CHECK.due("P8: amount", x.logAmount(2), 240);
        CHECK.due("P8: twice", x.leave(0), -2);
        x.pay(1, 1);
        CHECK.due("P29: paid for some minutes", x.overtime(1), 0);
        CHECK.due("P8: paid", x.leave(1), 0);
    }

    private static void promises26To28() {
        ParkingEnforcement x = CHECK.town("places 2");
        x.park(4, 1);
        int[] wrong = {-1, 16, Integer.MIN_VALUE, Integer.MAX_VALUE};
        for (int car : wrong) {
            CHECK.due("P26: no car", x.state(car), -1);
            CHECK.due("P27: no car", x.placeOf(car), -1);
            CHECK.due("P28: no car", x.paidUntil(car), -1);
        }
        CHECK.due("P26: away", x.state(0), 0);
        CHECK.due("P27: away", x.placeOf(0), -2);
        CHECK.due("P28: away", x.paidUntil(0), -2);
        CHECK.due("P26: parked", x.state(4), 1);
        CHECK.due("P27: parked", x.placeOf(4), 1);
        CHECK.due("P28: parked", x.paidUntil(4), 0);
    }

    private static void promise46() {
        ParkingEnforcement x = CHECK.town("places 2;zone 1 3;rate 3 0 1 100;rate 3 1 2 7;rate 3 23 24 1");
        CHECK.due("P46: place -1", x.price(-1, 0, 0), -1);
        CHECK.due("P46: place 2", x.price(2, 0, 0), -1);
        CHECK.due("P46: start -1", x.price(1, -1, 0), -1);
        CHECK.due("P46: start 10080", x.price(1, 10080, 0), -1);
        CHECK.due("P46: minutes -1", x.price(1, 0, -1), -1);
        CHECK.due("P46: minutes 1441", x.price(1, 0, 1441), -1);
        CHECK.due("P46: no minute", x.price(1, 0, 0), 0);
        CHECK.due("P46: rounded up", x.price(1, 0, 1), 2);
        CHECK.due("P46: not rounded", x.price(1, 0, 3), 5);
        CHECK.due("P46: two hours", x.price(1, 59, 2), 2);
        CHECK.due("P46: a day", x.price(1, 0, 1440), 108);
        CHECK.due("P46: a day from anywhere", x.price(1, 1000, 1440), 108);
        CHECK.due("P46: over the end", x.price(1, 10079, 61), 101);
        CHECK.due("P46: another zone", x.price(0, 0, 1440), 0);
    }

    private static void promise47() {
        ParkingEnforcement x = CHECK.town("places 2;zone 1 1;rate 1 0 24 60;rate 1 3 4 59;rate 1 5 6 2");
        CHECK.due("P47: place -1", x.cheapestStart(-1, 60), -1);
        CHECK.due("P47: place 2", x.cheapestStart(2, 60), -1);
        CHECK.due("P47: 0 minutes", x.cheapestStart(1, 0), -1);
        CHECK.due("P47: 601 minutes", x.cheapestStart(1, 601), -1);
        CHECK.due("P47: all equal", x.cheapestStart(0, 600), 0);
        CHECK.due("P47: one minute costs a cent everywhere", x.cheapestStart(1, 1), 0);
        CHECK.due("P47: thirty cheap minutes", x.cheapestStart(1, 30), 300);
        CHECK.due("P47: thirty-one cheap minutes, as rounded", x.cheapestStart(1, 31), 299);
        CHECK.due("P47: ten hours", x.cheapestStart(1, 600), 0);
        x.advance(300);
        CHECK.due("P47: from now on", x.cheapestStart(1, 60), 300);
        x.advance(1);
        CHECK.due("P47: the first start is now", x.cheapestStart(1, 30), 301);
        x.advance(30);
        CHECK.due("P47: a day on", x.cheapestStart(1, 60), 1740);
        ParkingEnforcement z = CHECK.town("places 1;rate 0 3 4 600");
        z.advance(240);
        CHECK.due("P47: just behind a dear hour", z.cheapestStart(0, 60), 240);
        z.advance(1380);
        CHECK.due("P47: just before a dear hour", z.cheapestStart(0, 60), 1680);
        ParkingEnforcement w = CHECK.town("places 1;rate 0 0 24 60;rate 0 5 6 600");
        w.advance(241);
        CHECK.due("P47: one dear minute at the end", w.cheapestStart(0, 60), 360);
        ParkingEnforcement y = CHECK.town("places 1;rate 0 0 24 60;rate 0 23 24 59");
        CHECK.due("P47: the last start that is considered", y.cheapestStart(0, 60), 1380);
        for (int day = 0; day < 6; day++) {
            y.advance(1440);
        }
        y.advance(1439);
        y.setRate(0, 23, 60);
        y.setRate(0, 5, 0);
        CHECK.due("P47: behind the end", y.cheapestStart(0, 60), 10080 + 300);
    }

    private static void promise48() {
        ParkingEnforcement x = CHECK.town("places 2;zone 1 1;rate 1 0 24 100;stay 1 600;stay 0 10");
        CHECK.due("P48: place -1", x.minutesFor(-1, 0), -1);
        CHECK.due("P48: place 2", x.minutesFor(2, 0), -1);
        CHECK.due("P48: -1 cents", x.minutesFor(0, -1), -1);
        CHECK.due("P48: 10000 cents", x.minutesFor(0, 10000), -1);
        CHECK.due("P48: no rate", x.minutesFor(0, 0), 10);
        CHECK.due("P48: no money", x.minutesFor(1, 0), 0);
        CHECK.due("P48: a cent", x.minutesFor(1, 1), 0);
        CHECK.due("P48: two cents", x.minutesFor(1, 2), 1);
        CHECK.due("P48: exactly", x.minutesFor(1, 5), 3);
        CHECK.due("P48: the longest stay", x.minutesFor(1, 9999), 600);
        CHECK.due("P48: just ten hours", x.minutesFor(1, 1000), 600);
        CHECK.due("P48: not quite ten hours", x.minutesFor(1, 999), 599);
    }

    private static void promise53() {
        ParkingEnforcement x = CHECK.town("places 2;spaces 0 4;rate 0 0 24 60;stay 0 600");
        x.park(1, 0);
        x.park(2, 0);
        x.park(3, 0);
        x.park(4, 1);
        x.pay(2, 40);
        x.pay(3, 600);
        x.advance(10);
        CHECK.due("P53: place -1", x.paidSoon(-1, 0), -1);
        CHECK.due("P53: place 2", x.paidSoon(2, 0), -1);
        CHECK.due("P53: -1 minutes", x.paidSoon(0, -1), -1);
        CHECK.due("P53: 601 minutes", x.paidSoon(0, 601), -1);
        CHECK.due("P53: now", x.paidSoon(0, 0), 2);
        CHECK.due("P53: a minute before", x.paidSoon(0, 29), 2);
        CHECK.due("P53: just then", x.paidSoon(0, 30), 6);
        CHECK.due("P53: long after", x.paidSoon(0, 600), 14);
        CHECK.due("P53: not quite", x.paidSoon(0, 589), 6);
        CHECK.due("P53: the other place", x.paidSoon(1, 0), 16);
        x.leave(1);
        CHECK.due("P53: not the one that left", x.paidSoon(0, 600), 12);
    }

    public static void main(String[] args) {
        promises5And15();
        promise6();
        promise7();
        payInAnotherZoneAndBehindTheEnd();
        promises8And29();
        promises26To28();
        promise46();
        promise47();
        promise48();
        promise53();
        CHECK.end();
    }
}
