/** Promises 11, 24, 25, 38 and 55 to 58: pounds, the truck and tours. */
public final class TowingTest {
    private static final Check CHECK = new Check();

    /** Has the cars, each parked at its place, ticketed thrice and so clamped, all in one minute. */
    private static ParkingEnforcement clamped(String town, int[][] cars) {
        ParkingEnforcement x = CHECK.town(town + ";rate 0 0 24 60");
        for (int[] car : cars) {
            x.park(car[0], car[1]);
        }
        for (int round = 0; round < 3; round++) {
            x.advance(round == 0 ? 30 : 120);
            for (int place = 0; place < x.placeCount(); place++) {
                x.inspect(place);
            }
        }
        return x;
    }

    private static void tour(String what, ParkingEnforcement x, int minutes, int[][] trips) {
        CHECK.due("P55: length, " + what, x.tourLength(), trips.length);
        CHECK.due("P56: minutes, " + what, x.tourMinutes(), minutes);
        for (int i = 0; i < trips.length; i++) {
            CHECK.due("P57: car " + i + ", " + what, x.tourCar(i), trips[i][0]);
            CHECK.due("P58: pound " + i + ", " + what, x.tourPound(i), trips[i][1]);
        }
        int[] wrong = {-1, trips.length, Integer.MIN_VALUE, Integer.MAX_VALUE};
        for (int index : wrong) {
            CHECK.fails("P57: no trip, " + what, IndexOutOfBoundsException.class, () -> x.tourCar(index));
            CHECK.fails("P58: no trip, " + what, IndexOutOfBoundsException.class, () -> x.tourPound(index));
        }
    }

    private static void promises24And25() {
        ParkingEnforcement x = CHECK.town("places 4;pound 2 6;pound 1 3");
        CHECK.due("P24: -1", x.poundFree(-1), -1);
        CHECK.due("P24: 4", x.poundFree(4), -1);
        CHECK.due("P24: no pound", x.poundFree(0), -3);
        CHECK.due("P24: 2", x.poundFree(2), 6);
        CHECK.due("P24: 1", x.poundFree(1), 3);
        CHECK.due("P25: described first", x.truck(), 2);
        CHECK.due("P25: no pound", new ParkingEnforcement().truck(), -3);
    }

    private static void promise38() {
        ParkingEnforcement x = clamped("places 2;pound 0 1", new int[][] {{0, 0}, {15, 1}});
        CHECK.due("P26: clamped", x.state(15), 2);
        CHECK.due("P38: at once", x.towable(), 0);
        x.advance(179);
        CHECK.due("P38: 179 minutes", x.towable(), 0);
        tour("179 minutes", x, 0, new int[][] {});
        CHECK.due("P11: 179 minutes", x.towNext(), -3);
        x.advance(1);
        CHECK.due("P38: 180 minutes, the one without a way too", x.towable(), 32769);
        x.payFines(0, 99999);
        CHECK.due("P38: released", x.towable(), 32768);
        tour("without a way", x, 0, new int[][] {});
        CHECK.due("P11: without a way", x.towNext(), -3);
        ParkingEnforcement y = clamped("places 1", new int[][] {{3, 0}});
        y.advance(180);
        CHECK.due("P38: without a pound", y.towable(), 8);
        tour("without a pound", y, 0, new int[][] {});
        CHECK.due("P11: without a pound", y.towNext(), -3);
    }

    private static void promise11() {
        ParkingEnforcement x = clamped("places 3;road 0 1 7;road 1 2 4;pound 2 2", new int[][] {{5, 0}, {6, 1}});
        x.advance(180);
        tour("two cars", x, 32 + 18, new int[][] {{5, 2}, {6, 2}});
        int log = x.logCount();
        CHECK.due("P11: car", x.towNext(), 5);
        CHECK.due("P11: minute", x.now(), 450 + 32);
        CHECK.due("P25: truck", x.truck(), 2);
        CHECK.due("P26: in a pound", x.state(5), 3);
        CHECK.due("P27: in a pound", x.placeOf(5), 2);
        CHECK.due("P24: room", x.poundFree(2), 1);
        CHECK.due("P36: fees", x.fees(5), 23000);
        CHECK.due("P22: its space is free", x.freeSpaces(0), 2);
        CHECK.due("P23: its space is free", x.carsAt(0), 0);
        CHECK.due("P37: not clamped", x.clampedSince(5), -2);
        CHECK.due("P8: in a pound", x.leave(5), -2);
        CHECK.due("P7: in a pound", x.pay(5, 10), -2);
        CHECK.due("P6: in a pound", x.park(5, 0), -2);
        CHECK.due("P28: in a pound", x.paidUntil(5), -2);
        CHECK.due("P29: in a pound", x.overtime(5), -2);
        CHECK.due("P49: in a pound", x.ticketNow(5), 0);
        CHECK.due("P39: one entry", x.logCount(), log + 1);
        CHECK.due("P40: at the new minute", x.logMinute(log), 482);
        CHECK.due("P41: kind", x.logKind(log), 10);
        CHECK.due("P42: car", x.logCar(log), 5);
        CHECK.due("P43: amount", x.logAmount(log), 15000);
        CHECK.due("P38: the other", x.towable(), 64);
        CHECK.due("P11: the other", x.towNext(), 6);
        CHECK.due("P11: minute then", x.now(), 500);
        CHECK.due("P24: no room", x.poundFree(2), 0);
        CHECK.due("P11: no more", x.towNext(), -3);
    }

    private static void fullPound() {
        ParkingEnforcement x = clamped("places 2;road 0 1 5;pound 1 1", new int[][] {{1, 0}, {2, 0}});
        x.advance(180);
        tour("room for one", x, 20, new int[][] {{1, 1}});
        x.towNext();
        tour("no room", x, 0, new int[][] {});
        CHECK.due("P11: no room", x.towNext(), -3);
        x.payFines(1, 99999);
        tour("room again", x, 20, new int[][] {{2, 1}});
    }

    private static void mostCarsBeforeShortest() {
        // The near car costs 10 minutes alone; both cars need both pounds.
        ParkingEnforcement x = clamped("places 3;road 0 1 90;road 1 2 3;pound 0 1;pound 1 1",
                new int[][] {{3, 2}, {8, 0}});
        x.advance(180);
        tour("both", x, 10 + 90 + 3 + 10 + 3, new int[][] {{8, 0}, {3, 1}});
    }

    private static void shortestBeforeSmallest() {
        // Car 0 first would lead the truck the long way twice.
        ParkingEnforcement x = clamped("places 3;road 0 1 20;road 1 2 1;pound 0 2;pound 2 2",
                new int[][] {{0, 1}, {1, 0}});
        x.advance(180);
        tour("the shortest", x, 10 + (20 + 10 + 1), new int[][] {{1, 0}, {0, 2}});
    }

    private static void smallestOfEqual() {
        ParkingEnforcement x = clamped("places 3;spaces 1 3;road 0 1 5;road 1 2 5;pound 2 6;pound 0 6",
                new int[][] {{9, 1}, {4, 1}, {11, 1}});
        x.advance(180);
        tour("equal ones", x, 60, new int[][] {{4, 0}, {9, 0}, {11, 0}});
        x.towNext();
        CHECK.due("P25: the pound with the smaller number", x.truck(), 0);
    }

    private static void carBeforePound() {
        String town = "places 3;road 0 1 5;road 1 2 5;pound 0 1;pound 2 1";
        ParkingEnforcement x = clamped(town, new int[][] {{0, 1}, {1, 1}});
        x.advance(180);
        tour("room for one each", x, 40, new int[][] {{0, 0}, {1, 2}});
        // (1, 0) (0, 2) and (1, 2) (0, 0) take 40 minutes too.
        ParkingEnforcement y = clamped(town, new int[][] {{0, 2}, {1, 1}});
        y.advance(180);
        tour("the smaller car, the greater pound", y, 40, new int[][] {{0, 2}, {1, 0}});
    }

    private static void theFirstSixThatWereClamped() {
        ParkingEnforcement x = CHECK.town("places 2;road 0 1 1;pound 1 6;spaces 0 8;spaces 1 8;rate 0 0 24 60");
        for (int car = 0; car < 4; car++) {
            x.park(car, 0);
        }
        x.advance(5);
        for (int car = 12; car < 16; car++) {
            x.park(car, 1);
        }
        x.advance(1);
        for (int round = 0; round < 3; round++) {
            x.inspect(1);
            x.advance(1);
            x.inspect(0);
            x.advance(119);
        }
        x.advance(60);
        CHECK.due("P38: those at place 1", x.towable(), 0xf000);
        x.advance(1);
        CHECK.due("P38: all eight", x.towable(), 0xf00f);
        tour("six of eight", x, 4 * 10 + 2 * 12, new int[][] {{0, 1}, {1, 1}, {12, 1}, {13, 1}, {14, 1}, {15, 1}});
        CHECK.due("P11: first", x.towNext(), 0);
        tour("six of seven, room for five", x, 4 * 10 + 12, new int[][] {{1, 1}, {12, 1}, {13, 1}, {14, 1}, {15, 1}});
    }

    private static void sixOfEightInOneMinute() {
        ParkingEnforcement x = clamped("places 2;road 0 1 1;pound 0 6;pound 1 6;spaces 0 7",
                new int[][] {{1, 0}, {3, 0}, {5, 0}, {7, 0}, {9, 0}, {11, 0}, {13, 0}, {15, 1}});
        x.advance(180);
        tour("the six smaller ones", x, 60, new int[][] {{1, 0}, {3, 0}, {5, 0}, {7, 0}, {9, 0}, {11, 0}});
    }

    private static void eachQuestionPlansAnew() {
        ParkingEnforcement x = clamped("places 2;road 0 1 8;pound 1 3", new int[][] {{2, 0}, {3, 1}});
        x.advance(180);
        x.saveSnapshot(0);
        CHECK.due("P56: asked first", x.tourMinutes(), 26 + 10);
        x.payFines(2, 99999);
        CHECK.due("P57: asked first", x.tourCar(0), 3);
        x.restoreSnapshot(0);
        CHECK.due("P58: asked first", x.tourPound(1), 1);
        x.payFines(3, 99999);
        CHECK.due("P56: asked again", x.tourMinutes(), 26);
        CHECK.due("P57: asked again", x.tourCar(0), 2);
        CHECK.fails("P58: asked again", IndexOutOfBoundsException.class, () -> x.tourPound(1));
    }

    private static void theTruckStaysWhereItTowed() {
        ParkingEnforcement x = clamped("places 4;road 0 1 10;road 1 2 10;road 2 3 1;pound 0 1;pound 3 2",
                new int[][] {{0, 2}, {1, 1}});
        x.advance(180);
        // The first trip is longer than one back to pound 0, and the second one so much shorter.
        tour("both", x, (10 + 10 + 11) + (1 + 10 + 1), new int[][] {{1, 3}, {0, 3}});
        CHECK.due("P11: first trip", x.towNext(), 1);
        CHECK.due("P25: at pound 3", x.truck(), 3);
        CHECK.due("P11: its minutes", x.now(), 450 + 31);
        tour("from pound 3", x, 1 + 10 + 1, new int[][] {{0, 3}});
        CHECK.due("P11: second trip", x.towNext(), 0);
        CHECK.due("P11: its minutes", x.now(), 481 + 12);
    }

    private static void timeAtItsEnd() {
        ParkingEnforcement x = clamped("places 2;road 0 1 10;pound 1 2", new int[][] {{0, 0}, {1, 0}});
        for (int day = 0; day < 6; day++) {
            x.advance(1440);
        }
        x.advance(10079 - 30 - x.now());
        x.saveSnapshot(0);
        CHECK.due("P11: just in time", x.towNext(), 0);
        CHECK.due("P11: the last minute", x.now(), 10079);
        CHECK.due("P11: the last minute in the log", x.logMinute(x.logCount() - 1), 10079);
        CHECK.due("P11: no time for the second", x.towNext(), -4);
        x.restoreSnapshot(0);
        x.advance(1);
        int log = x.logCount();
        CHECK.due("P11: a minute too late", x.towNext(), -4);
        CHECK.due("P11: nothing changed, minute", x.now(), 10050);
        CHECK.due("P11: nothing changed, log", x.logCount(), log);
        CHECK.due("P11: nothing changed, car", x.state(0), 2);
        CHECK.due("P55: the tour stands", x.tourLength(), 2);
    }

    public static void main(String[] args) {
        promises24And25();
        promise38();
        promise11();
        fullPound();
        mostCarsBeforeShortest();
        shortestBeforeSmallest();
        smallestOfEqual();
        carBeforePound();
        theFirstSixThatWereClamped();
        sixOfEightInOneMinute();
        eachQuestionPlansAnew();
        theTruckStaysWhereItTowed();
        timeAtItsEnd();
        CHECK.end();
    }
}
