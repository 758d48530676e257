/** Promises 59 to 61: patrols. */
public final class PatrolsTest {
    private static final Check CHECK = new Check();

    private static void best(String what, ParkingEnforcement x, int start, int minutes, int value, int set, int length) {
        CHECK.due("P59: " + what, x.patrolValue(start, minutes), value);
        CHECK.due("P60: " + what, x.patrolSet(start, minutes), set);
        CHECK.due("P61: " + what, x.patrolMinutes(start, minutes), length);
    }

    /** Parks cars, one after the other from car 0 on, at the places of the row. */
    private static ParkingEnforcement parked(String town, int... places) {
        ParkingEnforcement x = CHECK.town(town);
        for (int i = 0; i < places.length; i++) {
            x.park(i, places[i]);
        }
        return x;
    }

    private static void arguments() {
        ParkingEnforcement x = parked("places 2;rate 0 0 24 60;road 0 1 1", 0, 1);
        x.advance(10);
        int[][] wrong = {{-1, 10}, {2, 10}, {0, -1}, {0, 601}, {Integer.MIN_VALUE, 0}, {0, Integer.MAX_VALUE}};
        for (int[] w : wrong) {
            best("out of range", x, w[0], w[1], -1, -1, -1);
        }
        best("the greatest number of minutes", x, 0, 600, 3000, 3, 11);
        best("no minutes", x, 0, 0, 0, 0, 0);
    }

    private static void lengths() {
        ParkingEnforcement x = parked("places 3;rate 0 0 24 60;road 0 1 10;road 1 2 20", 0, 1, 1, 2);
        best("nothing to write", x, 0, 600, 0, 0, 0);
        x.advance(20);
        best("too short for an inspection", x, 1, 4, 0, 0, 0);
        best("just one inspection", x, 1, 5, 3000, 2, 5);
        best("a way and an inspection", x, 0, 15, 3000, 2, 15);
        best("a minute less", x, 0, 14, 1500, 1, 5);
        best("both on the way", x, 0, 20, 4500, 3, 20);
        best("both on the way, a minute less", x, 0, 19, 3000, 2, 15);
        best("all, from an end", x, 0, 45, 6000, 7, 45);
        best("all, from the middle", x, 1, 600, 6000, 7, 5 + 10 + 5 + 30 + 5);
        best("the start is not in the set", x, 2, 25, 3000, 2, 25);
    }

    private static void places() {
        ParkingEnforcement x = parked("places 4;zone 1 1;rate 0 0 24 60;road 0 1 2;road 1 2 2", 0, 1, 2, 3);
        x.advance(10);
        best("place 1 has no value, place 3 no way", x, 0, 600, 3000, 5, 14);
        best("from a place without value", x, 1, 7, 1500, 1, 7);
        best("from a place without roads", x, 3, 600, 1500, 8, 5);
    }

    private static void equalOnes() {
        ParkingEnforcement x = parked("places 4;rate 0 0 24 60;road 0 1 5;road 0 2 4;road 0 3 4", 1, 2, 3);
        x.advance(10);
        best("the shortest, of those the smallest set", x, 0, 10, 1500, 4, 9);
        best("two of three", x, 0, 22, 3000, 12, 22);
        best("two of three, with time left", x, 0, 25, 3000, 12, 22);
        best("all", x, 0, 600, 4500, 14, 4 + 5 + 8 + 5 + 9 + 5);
    }

    private static void valuesAreOfNow() {
        ParkingEnforcement x = parked("places 2;rate 0 0 24 60;road 0 1 30;spaces 0 8", 0, 0, 1);
        x.advance(25);
        best("overtime of now", x, 0, 600, 4500, 3, 40);
        x.inspect(0);
        best("place 0 has its tickets", x, 0, 600, 1500, 2, 35);
        x.advance(120);
        best("with an unpaid ticket each", x, 0, 5, 13000, 1, 5);
        best("and place 1", x, 0, 40, 19000, 3, 40);
        CHECK.due("P59: nothing is written", x.ticketCount(2), 0);
    }

    private static void eachQuestionPlansAnew() {
        ParkingEnforcement x = parked("places 2;rate 0 0 24 60;road 0 1 30", 0, 1);
        CHECK.due("P60: nothing yet", x.patrolSet(0, 600), 0);
        x.advance(25);
        CHECK.due("P61: asked first", x.patrolMinutes(0, 600), 40);
        CHECK.due("P60: fewer minutes", x.patrolSet(0, 39), 1);
        CHECK.due("P59: other start", x.patrolValue(1, 40), 3000);
        x.leave(0);
        CHECK.due("P61: one left", x.patrolMinutes(0, 600), 35);
        CHECK.due("P60: from the other place", x.patrolSet(1, 5), 2);
    }

    private static void tenPlaces() {
        StringBuilder town = new StringBuilder("places 10;rate 0 0 24 60");
        for (int place = 1; place < 10; place++) {
            town.append(";road ").append(place - 1).append(' ').append(place).append(" 1");
        }
        ParkingEnforcement x = parked(town.toString(), 0, 1, 2, 3, 4, 5, 6, 7, 8, 9);
        x.advance(1);
        best("all of ten", x, 0, 59, 15000, 1023, 59);
        best("nine of ten", x, 0, 58, 13500, 511, 53);
        best("all of ten from the middle", x, 4, 600, 15000, 1023, 50 + 4 + 9);
        best("three of ten", x, 5, 17, 4500, 56, 17);
    }

    public static void main(String[] args) {
        arguments();
        lengths();
        places();
        equalOnes();
        valuesAreOfNow();
        eachQuestionPlansAnew();
        tenPlaces();
        CHECK.end();
    }
}
