/** The four examples of the document. */
public final class ExamplesTest {
    private static final Check CHECK = new Check();

    private static void example1() {
        ParkingEnforcement x = new ParkingEnforcement();
        CHECK.due("1: setRate(0, 0, 60)", x.setRate(0, 0, 60), 0);
        CHECK.due("1: park(0, 0)", x.park(0, 0), 1);
        CHECK.due("1: pay(0, 20)", x.pay(0, 20), 20);
        CHECK.due("1: advance(30)", x.advance(30), 30);
        CHECK.due("1: overtime(0)", x.overtime(0), 10);
        CHECK.due("1: ticketNow(0)", x.ticketNow(0), 1500);
        CHECK.due("1: inspect(0)", x.inspect(0), 1);
        CHECK.due("1: ticketAmount(0, 0)", x.ticketAmount(0, 0), 1500);
        CHECK.due("1: due(0)", x.due(0), 1500);
    }

    private static void example2() {
        ParkingEnforcement x = new ParkingEnforcement();
        CHECK.due("2: setRate(0, 0, 60)", x.setRate(0, 0, 60), 0);
        CHECK.due("2: setRate(0, 1, 120)", x.setRate(0, 1, 120), 0);
        CHECK.due("2: price(0, 50, 20)", x.price(0, 50, 20), 30);
        CHECK.due("2: cheapestStart(0, 60)", x.cheapestStart(0, 60), 120);
        CHECK.due("2: minutesFor(0, 100)", x.minutesFor(0, 100), 80);
    }

    private static void example3() {
        ParkingEnforcement x = new ParkingEnforcement();
        CHECK.due("3: park(3, 0)", x.park(3, 0), 1);
        CHECK.due("3: park(4, 0)", x.park(4, 0), 0);
        CHECK.due("3: park(5, 0)", x.park(5, 0), -3);
        CHECK.due("3: leave(3)", x.leave(3), 0);
        CHECK.due("3: freeSpaces(0)", x.freeSpaces(0), 1);
        CHECK.due("3: carsAt(0)", x.carsAt(0), 16);
    }

    private static void example4() {
        ParkingEnforcement x = new ParkingEnforcement();
        CHECK.due("4: pay(0, 10)", x.pay(0, 10), -2);
        CHECK.due("4: park(0, 1)", x.park(0, 1), -1);
        CHECK.due("4: towNext()", x.towNext(), -3);
        CHECK.due("4: truck()", x.truck(), -3);
        CHECK.fails("4: logKind(0)", IndexOutOfBoundsException.class, () -> x.logKind(0));
    }

    public static void main(String[] args) {
        example1();
        example2();
        example3();
        example4();
        CHECK.end();
    }
}
