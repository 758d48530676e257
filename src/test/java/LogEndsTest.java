/** Section 7 and promises 39 to 44, sentence by sentence: the kinds, their amounts and the order of the entries. */
public final class LogEndsTest {
    private static final Check CHECK = new Check();

    private static ParkingEnforcement parked() {
        ParkingEnforcement x = CHECK.town("places 10;spaces 9 8;road 0 9 5;rate 0 0 24 60;pound 0 1");
        x.park(15, 9);
        x.park(3, 9);
        return x;
    }

    private static void entries(String what, ParkingEnforcement x, int from, int[][] due) {
        CHECK.due("P39: " + what, x.logCount(), from + due.length);
        for (int i = 0; i < due.length; i++) {
            CHECK.due("P40: " + what + ", entry " + i, x.logMinute(from + i), x.now());
            CHECK.due("P41: " + what + ", entry " + i, x.logKind(from + i), due[i][0]);
            CHECK.due("P42: " + what + ", entry " + i, x.logCar(from + i), due[i][1]);
            CHECK.due("P43: " + what + ", entry " + i, x.logAmount(from + i), due[i][2]);
        }
    }

    // "The kinds are: 1 PARK (amount is the place)" .. "10 TOW (15000)"
    private static void allKinds() {
        ParkingEnforcement x = parked();
        entries("park", x, 0, new int[][] {{1, 15, 9}, {1, 3, 9}});
        x.pay(15, 9999);
        entries("pay", x, 2, new int[][] {{2, 15, 9999}});
        x.advance(121);
        x.inspect(9);
        entries("inspect", x, 3, new int[][] {{4, 3, 6000}, {4, 15, 1500}});
        x.leave(15);
        entries("leave", x, 5, new int[][] {{3, 15, 1}});
        x.advance(120);
        x.inspect(9);
        entries("inspect again", x, 6, new int[][] {{4, 3, 6500}});
        x.advance(120);
        x.inspect(9);
        entries("inspect thrice", x, 7, new int[][] {{4, 3, 7000}, {5, 3, 8000}});
        x.advance(180);
        x.towNext();
        entries("towNext, at the new minute", x, 9, new int[][] {{10, 3, 15000}});
        CHECK.due("P15: the new minute", x.now(), 561);
        x.payFines(3, 42499);
        entries("payFines, a cent too little", x, 10,
                new int[][] {{6, 3, 42499}, {7, 3, 6000}, {7, 3, 6500}, {7, 3, 7000}});
        x.payFines(3, 1);
        entries("payFines, released from place 0", x, 14, new int[][] {{6, 3, 1}, {8, 3, 23000}, {9, 3, 0}});
    }

    // "9 RELEASE (the place where the car was)"
    private static void releasedWhereItStands() {
        ParkingEnforcement x = parked();
        for (int round = 0; round < 3; round++) {
            x.advance(120);
            x.inspect(9);
        }
        int from = x.logCount();
        x.payFines(15, 24500);
        entries("released at place 9", x, from,
                new int[][] {{6, 15, 24500}, {7, 15, 3000}, {7, 15, 6500}, {7, 15, 7000}, {8, 15, 8000}, {9, 15, 9}});
    }

    // "3 LEAVE (overtime)", which may be 0
    private static void leavesWithoutOvertime() {
        ParkingEnforcement x = parked();
        x.leave(3);
        entries("leave at once", x, 2, new int[][] {{3, 3, 0}});
    }

    // Calls that are refused or that find nothing log nothing.
    private static void nothingIsLogged() {
        ParkingEnforcement x = parked();
        x.inspect(9);
        x.inspect(0);
        x.pay(3, 0);
        x.park(3, 9);
        x.payFines(3, 5);
        x.towNext();
        x.leave(0);
        x.setRate(0, 0, 7);
        x.advance(3);
        x.saveSnapshot(0);
        CHECK.due("P39: nothing", x.logCount(), 2);
    }

    // "Returns the sum of the amounts of all log entries of a kind on a day."
    private static void sumOfOneKind() {
        ParkingEnforcement x = parked();
        x.pay(3, 1);
        x.pay(3, 2);
        x.pay(15, 4);
        CHECK.due("P44: of all cars", x.daySum(0, 2), 7);
        CHECK.due("P44: not of another kind", x.daySum(0, 4), 0);
        CHECK.due("P44: not of another day", x.daySum(1, 2), 0);
    }

    public static void main(String[] args) {
        allKinds();
        releasedWhereItStands();
        leavesWithoutOvertime();
        nothingIsLogged();
        sumOfOneKind();
        CHECK.end();
    }
}
