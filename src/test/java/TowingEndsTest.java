/** Section 6 and promises 11, 24, 25, 38 and 55 to 58, sentence by sentence: pounds, trips and tours. */
public final class TowingEndsTest {
    private static final Check CHECK = new Check();

    /** Cars 0, 1, .. parked at the places of the row, clamped in minute 360; the minute is 540. */
    private static ParkingEnforcement clamped(String town, int... places) {
        ParkingEnforcement x = CHECK.town(town + ";rate 0 0 24 60");
        clampAll(x, places);
        return x;
    }

    private static void clampAll(ParkingEnforcement x, int... places) {
        for (int car = 0; car < places.length; car++) {
            x.park(car, places[car]);
        }
        for (int round = 0; round < 3; round++) {
            x.advance(120);
            for (int place = 0; place < x.placeCount(); place++) {
                x.inspect(place);
            }
        }
        x.advance(180);
    }

    private static void tour(String what, ParkingEnforcement x, int trips, int minutes) {
        CHECK.due("P55: " + what, x.tourLength(), trips);
        CHECK.due("P56: " + what, x.tourMinutes(), minutes);
        if (trips > 0) {
            CHECK.due("P57: the last car, " + what, x.tourCar(trips - 1) >= 0, true);
            CHECK.due("P58: the last pound, " + what, x.tourPound(trips - 1) >= 0, true);
        }
        CHECK.fails("P57: behind the last, " + what, IndexOutOfBoundsException.class, () -> x.tourCar(trips));
        CHECK.fails("P58: behind the last, " + what, IndexOutOfBoundsException.class, () -> x.tourPound(trips));
        CHECK.fails("P57: before the first, " + what, IndexOutOfBoundsException.class, () -> x.tourCar(-1));
        CHECK.fails("P58: before the first, " + what, IndexOutOfBoundsException.class, () -> x.tourPound(-1));
    }

    // "A clamped car can be towed from 180 minutes after it was clamped."
    private static void from180Minutes() {
        ParkingEnforcement x = CHECK.town("places 1;pound 0 1;rate 0 0 24 60");
        x.park(4, 0);
        for (int round = 0; round < 3; round++) {
            x.advance(120);
            x.inspect(0);
        }
        CHECK.due("P38: at once", x.towable(), 0);
        x.advance(179);
        CHECK.due("P38: 179 minutes", x.towable(), 0);
        CHECK.due("P11: 179 minutes", x.towNext(), -3);
        tour("179 minutes", x, 0, 0);
        x.advance(1);
        CHECK.due("P38: 180 minutes", x.towable(), 16);
        tour("180 minutes", x, 1, 10);
        CHECK.due("P11: 180 minutes", x.towNext(), 4);
        CHECK.due("P38: in the pound", x.towable(), 0);
    }

    // "The length of the trip is the length of both ways plus 10."
    private static void lengthOfATrip() {
        tour("no way at all", clamped("places 1;pound 0 1", 0), 1, 10);
        tour("there and back", clamped("places 2;pound 0 1;road 0 1 99", 1), 1, 99 + 10 + 99);
        ParkingEnforcement x = clamped("places 3;pound 0 1;pound 2 1;road 0 1 7;road 1 2 3", 1);
        tour("there and on", x, 1, 7 + 10 + 3);
        CHECK.due("P58: there and on", x.tourPound(0), 2);
        CHECK.due("P11: there and on", x.towNext(), 0);
        CHECK.due("P15: there and on", x.now(), 560);
        CHECK.due("P25: where it stays", x.truck(), 2);
    }

    // "The minute increases by the length of the trip"; "LIMIT if .. the minute would be greater than 10079"
    private static void theLastMinute() {
        ParkingEnforcement x = clamped("places 2;pound 0 1;road 0 1 20", 1);
        while (x.now() < 8640) {
            x.advance(1440);
        }
        x.advance(10029 - x.now());
        x.saveSnapshot(1);
        CHECK.due("P11: to the last minute", x.towNext(), 0);
        CHECK.due("P15: the last minute", x.now(), 10079);
        x.restoreSnapshot(1);
        x.advance(1);
        CHECK.due("P11: behind the last minute", x.towNext(), -4);
        CHECK.due("P15: behind the last minute", x.now(), 10030);
        CHECK.due("P26: behind the last minute", x.state(0), 2);
        CHECK.due("P25: behind the last minute", x.truck(), 0);
        tour("that cannot begin", x, 1, 50);
    }

    // "a pound that can still hold a car"; "pound PLACE N (1 to 6)"; "how many more cars a pound can hold"
    private static void aFullPound() {
        ParkingEnforcement x = clamped("places 2;spaces 1 8;pound 0 6;road 0 1 1", 1, 1, 1, 1, 1, 1, 1);
        for (int car = 0; car < 6; car++) {
            CHECK.due("P24: room", x.poundFree(0), 6 - car);
            tour("room for " + (6 - car), x, 6 - car, 12 * (6 - car));
            CHECK.due("P11: room", x.towNext(), car);
        }
        CHECK.due("P24: no room", x.poundFree(0), 0);
        tour("no room", x, 0, 0);
        CHECK.due("P38: it could be towed", x.towable(), 64);
        CHECK.due("P11: no room", x.towNext(), -3);
        x.payFines(3, 99999);
        CHECK.due("P24: room again", x.poundFree(0), 1);
        CHECK.due("P11: room again", x.towNext(), 6);
        ParkingEnforcement y = clamped("places 1;pound 0 1", 0, 0);
        tour("a pound for one", y, 1, 10);
        CHECK.due("P11: a pound for one", y.towNext(), 0);
        CHECK.due("P11: a pound for one, full", y.towNext(), -3);
    }

    private static void twoPounds() {
        ParkingEnforcement x = clamped("places 2;spaces 0 8;pound 0 1;pound 1 5;road 0 1 9", 0, 0, 0, 0, 0, 0);
        tour("both are needed", x, 6, 10 + (10 + 9) + 4 * (9 + 10 + 9));
        // The near pound as the second, third, fourth or fifth is as short, but greater by (car, place).
        CHECK.due("P57: the near pound first", x.tourCar(0), 0);
        CHECK.due("P58: the near pound first", x.tourPound(0), 0);
        CHECK.due("P58: the far pound then", x.tourPound(1), 1);
    }

    private static void loadAndClamp(ParkingEnforcement x, String town, int... places) {
        Check.append(x, town + ";rate 0 0 24 60");
        x.load();
        clampAll(x, places);
    }

    // Nothing of a greater tour that was asked before is in a smaller one.
    private static void aSmallerTourBehindAGreaterOne() {
        ParkingEnforcement x = clamped("places 8;road 0 1 1;road 1 2 1;road 2 3 1;road 3 4 1;road 4 5 1;road 5 6 1;"
                + "road 6 7 1;pound 0 3;pound 7 3", 6, 5, 4, 3, 2, 1);
        tour("the greater one", x, 6, 85);
        loadAndClamp(x, "places 3;road 0 1 5;road 1 2 5;pound 0 1;pound 2 1", 1, 1);
        tour("two cars to two pounds", x, 2, 40);
        trips("two cars to two pounds", x, new int[][] {{0, 0}, {1, 2}});
        loadAndClamp(x, "places 2;road 0 1 9;pound 1 1", 0, 0);
        tour("one car to one pound", x, 1, 28);
        trips("one car to one pound", x, new int[][] {{0, 1}});
        loadAndClamp(x, "places 2;road 0 1 9", 0, 0);
        tour("no pound", x, 0, 0);
    }

    // "or, if there are more than six, the six of them that were clamped first"
    private static void sixCandidates() {
        ParkingEnforcement six = clamped("places 1;spaces 0 8;pound 0 6", 0, 0, 0, 0, 0, 0);
        tour("six", six, 6, 60);
        CHECK.due("P57: all six", six.tourCar(5), 5);
        ParkingEnforcement seven = clamped("places 1;spaces 0 8;pound 0 6", 0, 0, 0, 0, 0, 0, 0);
        CHECK.due("P38: seven", seven.towable(), 127);
        tour("seven, clamped in the same minute", seven, 6, 60);
        CHECK.due("P57: those with the smaller numbers", seven.tourCar(5), 5);
    }

    /** Car 7 is clamped in minute 360, the cars 0 to 5 a minute later, and car 6 as the last. */
    private static ParkingEnforcement clampedOneByOne() {
        ParkingEnforcement x = CHECK.town("places 3;spaces 1 8;rate 0 0 24 60;pound 0 6");
        x.park(7, 0);
        x.park(6, 2);
        for (int car = 0; car < 6; car++) {
            x.park(car, 1);
        }
        for (int round = 0; round < 3; round++) {
            x.advance(round == 0 ? 120 : 118);
            x.inspect(0);
            x.advance(1);
            x.inspect(1);
            x.advance(1);
            x.inspect(2);
        }
        return x;
    }

    // "the six of them that were clamped first", even if there is no way to five of them
    private static void sixCandidatesByMinute() {
        ParkingEnforcement x = clampedOneByOne();
        CHECK.due("P37: the first", x.clampedSince(7), 360);
        CHECK.due("P37: the next", x.clampedSince(5), 361);
        CHECK.due("P37: the last", x.clampedSince(6), 362);
        x.advance(178);
        CHECK.due("P38: 180 minutes behind the first", x.towable(), 128);
        tour("one", x, 1, 10);
        x.advance(1);
        CHECK.due("P38: 180 minutes behind the next", x.towable(), 191);
        tour("seven, one of them with a way", x, 1, 10);
        CHECK.due("P57: the first", x.tourCar(0), 7);
        x.advance(1);
        CHECK.due("P38: 180 minutes behind the last", x.towable(), 255);
        CHECK.due("P11: the first", x.towNext(), 7);
        CHECK.due("P11: no way to six of seven", x.towNext(), -3);
    }

    // "Trips to places without a way are impossible."
    private static void withoutAWay() {
        tour("no way to the car", clamped("places 2;pound 0 1", 1), 0, 0);
        ParkingEnforcement x = clamped("places 4;road 0 1 5;road 2 3 5;pound 0 1;pound 2 6", 3, 1, 3);
        tour("the pound beyond is without a way too", x, 1, 20);
        CHECK.due("P57: with a way", x.tourCar(0), 1);
        CHECK.due("P58: with a way", x.tourPound(0), 0);
        CHECK.due("P38: all the same", x.towable(), 7);
    }

    // "NOT_POSSIBLE if the best tour has no trip"; "NOT_POSSIBLE if there is no pound"
    private static void noTrip() {
        ParkingEnforcement x = new ParkingEnforcement();
        CHECK.due("P11: a new object", x.towNext(), -3);
        CHECK.due("P25: a new object", x.truck(), -3);
        CHECK.due("P38: a new object", x.towable(), 0);
        tour("a new object", x, 0, 0);
        ParkingEnforcement noPound = clamped("places 1", 0);
        CHECK.due("P38: no pound", noPound.towable(), 1);
        CHECK.due("P11: no pound", noPound.towNext(), -3);
        tour("no pound", noPound, 0, 0);
        ParkingEnforcement noCar = CHECK.town("places 1;pound 0 6");
        CHECK.due("P11: no car", noCar.towNext(), -3);
        CHECK.due("P25: no car", noCar.truck(), 0);
        tour("no car", noCar, 0, 0);
    }

    // "The best tour tows the most cars", however long it is
    private static void theMostCars() {
        ParkingEnforcement x = clamped("places 3;road 0 1 99;road 1 2 99;pound 0 2", 0, 2);
        tour("a near one and a far one", x, 2, 10 + 198 + 10 + 198);
    }

    // "of those the smallest length", by one minute; "of those .. the lexicographically smallest"
    private static void theSmallestLength() {
        ParkingEnforcement x = clamped("places 3;road 0 1 5;road 1 2 4;pound 0 1;pound 2 1", 1);
        tour("a minute shorter", x, 1, 19);
        CHECK.due("P58: a minute shorter", x.tourPound(0), 2);
        ParkingEnforcement y = clamped("places 3;road 0 1 5;road 1 2 5;pound 2 1;pound 0 1", 1);
        tour("equal ones", y, 1, 20);
        CHECK.due("P58: the smaller place", y.tourPound(0), 0);
    }

    private static void trips(String what, ParkingEnforcement x, int[][] due) {
        for (int i = 0; i < due.length; i++) {
            CHECK.due("P57: trip " + i + ", " + what, x.tourCar(i), due[i][0]);
            CHECK.due("P58: trip " + i + ", " + what, x.tourPound(i), due[i][1]);
        }
    }

    // "Returns 0 to 6.": the six trips of the greatest tour, to two pounds that are full then
    private static void sixTripsToTwoPounds() {
        String line = "places 8;road 0 1 1;road 1 2 1;road 2 3 1;road 3 4 1;road 4 5 1;road 5 6 1;road 6 7 1";
        int[] places = {6, 5, 4, 3, 2, 1};
        // Three cars nearby and back, one over to the other pound, and the two nearby there: 12 + 7 + 6 minutes of way.
        ParkingEnforcement x = clamped(line + ";pound 0 3;pound 7 3", places);
        tour("from place 0", x, 6, 25 + 60);
        trips("from place 0", x, new int[][] {{3, 0}, {4, 0}, {5, 0}, {2, 7}, {0, 7}, {1, 7}});
        ParkingEnforcement y = clamped(line + ";pound 7 3;pound 0 3", places);
        tour("from place 7", y, 6, 25 + 60);
        trips("from place 7", y, new int[][] {{0, 7}, {1, 7}, {2, 7}, {3, 0}, {4, 0}, {5, 0}});
    }

    public static void main(String[] args) {
        from180Minutes();
        lengthOfATrip();
        theLastMinute();
        aFullPound();
        twoPounds();
        sixTripsToTwoPounds();
        aSmallerTourBehindAGreaterOne();
        sixCandidates();
        sixCandidatesByMinute();
        withoutAWay();
        noTrip();
        theMostCars();
        theSmallestLength();
        CHECK.end();
    }
}
