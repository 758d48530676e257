/** Section 8 and promises 59 to 61, sentence by sentence: patrols. */
public final class PatrolEndsTest {
    private static final Check CHECK = new Check();

    /** Car 0, 1, .. parked at the places of the row in minute 0; the minute is 10. */
    private static ParkingEnforcement overdue(String town, int... places) {
        ParkingEnforcement x = CHECK.town(town + ";rate 0 0 24 60");
        for (int car = 0; car < places.length; car++) {
            x.park(car, places[car]);
        }
        x.advance(10);
        return x;
    }

    private static void best(String what, ParkingEnforcement x, int start, int minutes, int value, int set,
            int length) {
        CHECK.due("P59: " + what, x.patrolValue(start, minutes), value);
        CHECK.due("P60: " + what, x.patrolSet(start, minutes), set);
        CHECK.due("P61: " + what, x.patrolMinutes(start, minutes), length);
    }

    // "The empty set is possible and has length 0."
    private static void theEmptySet() {
        best("no minutes", overdue("places 1", 0), 0, 0, 0, 0, 0);
        best("no cars", overdue("places 10"), 9, 600, 0, 0, 0);
        best("a new object", new ParkingEnforcement(), 0, 600, 0, 0, 0);
        ParkingEnforcement paid = CHECK.town("places 1;rate 0 0 24 60");
        paid.park(0, 0);
        best("no overtime", paid, 0, 600, 0, 0, 0);
    }

    // "An inspection takes 5 minutes."
    private static void fiveMinutes() {
        ParkingEnforcement x = overdue("places 1", 0);
        best("a minute too little", x, 0, 4, 0, 0, 0);
        best("just one inspection", x, 0, 5, 1500, 1, 5);
        best("a minute more", x, 0, 6, 1500, 1, 5);
    }

    // "those whose length is at most the given number of minutes"; "the sum of all ways and inspections"
    private static void atMostTheMinutes() {
        ParkingEnforcement x = overdue("places 2;road 0 1 8", 0, 1);
        best("both, a minute too little", x, 0, 17, 1500, 1, 5);
        best("both, just so", x, 0, 18, 3000, 3, 18);
        ParkingEnforcement y = overdue("places 3;road 0 1 8;road 1 2 9", 2);
        best("over another place, a minute too little", y, 0, 21, 0, 0, 0);
        best("over another place, just so", y, 0, 22, 1500, 4, 22);
    }

    // "The start place is inspected only if it is in the set."
    private static void theStartPlace() {
        ParkingEnforcement x = overdue("places 2;road 0 1 3;spaces 1 8", 0, 1, 1);
        best("the other place alone", x, 0, 8, 3000, 2, 8);
        best("the other place alone still", x, 0, 12, 3000, 2, 8);
        best("both", x, 0, 13, 4500, 3, 13);
    }

    // "has the greatest sum of values", "of those the smallest length", "of those the set with the smallest number"
    private static void theBest() {
        ParkingEnforcement value = overdue("places 3;road 0 1 1;road 0 2 9;spaces 2 8", 1, 2, 2);
        best("the greatest value before the smallest length", value, 0, 14, 3000, 4, 14);
        best("the greatest value, a minute too little", value, 0, 13, 1500, 2, 6);
        ParkingEnforcement length = overdue("places 3;road 0 1 3;road 0 2 2", 1, 2);
        best("the smallest length before the smallest set", length, 0, 8, 1500, 4, 7);
        ParkingEnforcement set = overdue("places 3;road 0 1 3;road 0 2 3", 1, 2);
        best("the smallest set", set, 0, 8, 1500, 2, 8);
        ParkingEnforcement pairs = overdue("places 5;road 0 1 4;road 0 4 4;road 0 2 4;road 0 3 4", 1, 2, 3, 4);
        best("the smallest set of two", pairs, 0, 22, 3000, 6, 22);
    }

    // "of those the smallest length": a place without value is never in the set, as it takes its 5 minutes
    private static void placesWithoutValue() {
        ParkingEnforcement x = overdue("places 3;road 0 1 1;road 1 2 1;zone 1 1", 0, 1, 2);
        best("the place between", x, 0, 600, 3000, 5, 12);
        x.inspect(2);
        best("a ticket was just written", x, 0, 600, 1500, 1, 5);
    }

    private static void withoutAWay() {
        ParkingEnforcement x = overdue("places 3;road 0 1 1", 0, 2);
        best("from one side", x, 1, 600, 1500, 1, 6);
        best("from the other side", x, 2, 600, 1500, 4, 5);
    }

    // "A town has 1 to 10 places"
    private static void tenPlaces() {
        ParkingEnforcement x = overdue("places 10;road 0 9 2", 0, 9);
        best("the first and the last place", x, 9, 12, 3000, 513, 12);
        best("the last place", x, 9, 11, 1500, 512, 5);
        StringBuilder town = new StringBuilder("places 10");
        for (int place = 1; place < 10; place++) {
            town.append(";road 0 ").append(place).append(" 24");
        }
        ParkingEnforcement star = overdue(town.toString(), 1, 2, 3, 4, 5, 6, 7, 8, 9);
        best("nine places around the start", star, 0, 24 + 8 * 48 + 45, 13500, 1022, 453);
        best("a minute too little", star, 0, 452, 12000, 510, 400);
    }

    // "The values do not change during a patrol."
    private static void valuesStay() {
        ParkingEnforcement x = CHECK.town("places 2;road 0 1 99;rate 0 0 24 60");
        x.park(0, 1);
        best("no overtime yet, for all the way", x, 0, 600, 0, 0, 0);
        x.advance(30);
        best("1500, for all the way", x, 0, 104, 1500, 2, 104);
        CHECK.due("P15: no time goes by", x.now(), 30);
        CHECK.due("P30: nothing is written", x.ticketCount(0), 0);
    }

    public static void main(String[] args) {
        theEmptySet();
        fiveMinutes();
        atMostTheMinutes();
        theStartPlace();
        theBest();
        placesWithoutValue();
        withoutAWay();
        tenPlaces();
        valuesStay();
        CHECK.end();
    }
}
