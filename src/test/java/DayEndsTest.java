/** The ends of hours and days, the minute 10079, and the minutes after it. */
public final class DayEndsTest {
    private static final Check CHECK = new Check();
    private static final int LAST = 10079;

    private static ParkingEnforcement at(int minute, String town) {
        ParkingEnforcement x = CHECK.town(town);
        goTo(x, minute);
        return x;
    }

    private static void goTo(ParkingEnforcement x, int minute) {
        while (x.now() < minute) {
            x.advance(Math.min(1440, minute - x.now()));
        }
        CHECK.due("P15: minute", x.now(), minute);
    }

    // "LIMIT if the minute would be greater than 10079"; "Returns 0 to 10079."
    private static void theLastMinute() {
        String town = "places 1";
        CHECK.due("P5: a day, to the last minute", at(8639, town).advance(1440), LAST);
        CHECK.due("P5: a day, behind the last minute", at(8640, town).advance(1440), -4);
        CHECK.due("P5: a minute less than a day", at(8640, town).advance(1439), LAST);
        ParkingEnforcement x = at(LAST, town);
        CHECK.due("P5: no minute", x.advance(0), LAST);
        CHECK.due("P5: one minute", x.advance(1), -4);
        CHECK.due("P5: a day", x.advance(1440), -4);
        CHECK.fails("P5: more than a day", IllegalArgumentException.class, () -> x.advance(1441));
        CHECK.fails("P5: less than no minute", IllegalArgumentException.class, () -> x.advance(-1));
        CHECK.due("P15: the minute stays", x.now(), LAST);
        CHECK.due("P13: the minute", x.saveSnapshot(0), LAST);
        CHECK.due("P14: the minute", x.restoreSnapshot(0), LAST);
    }

    // "Minute t belongs .. to the hour of the day (t / 60) mod 24."
    private static void hours() {
        ParkingEnforcement x = CHECK.town("places 1;rate 0 23 24 60;rate 0 0 1 120");
        int[][] due = {{0, 2}, {59, 2}, {60, 0}, {1379, 0}, {1380, 1}, {1439, 1}, {1440, 2}, {1499, 2}, {1500, 0},
            {8639, 1}, {8640, 2}, {10019, 0}, {10020, 1}, {LAST, 1}};
        for (int[] row : due) {
            CHECK.due("P46: minute " + row[0], x.price(0, row[0], 1), row[1]);
        }
        CHECK.due("P46: over an hour's end", x.price(0, 59, 2), 2);
        CHECK.due("P46: over a day's end", x.price(0, 1439, 2), 3);
        CHECK.due("P46: a day", x.price(0, 1439, 1440), 180);
    }

    // "Where minutes after 10079 are considered, the days go on in the same way."
    private static void pricesBehindTheEnd() {
        ParkingEnforcement x = CHECK.town("places 1;rate 0 23 24 60;rate 0 0 1 120");
        CHECK.due("P46: minute 10080 is in hour 0", x.price(0, LAST, 2), 3);
        CHECK.due("P46: to the end of hour 0", x.price(0, LAST, 61), 121);
        CHECK.due("P46: hour 1", x.price(0, LAST, 62), 121);
        CHECK.due("P46: up to hour 23", x.price(0, LAST, 1381), 121);
        CHECK.due("P46: hour 23 again", x.price(0, LAST, 1382), 122);
        CHECK.due("P46: a whole day", x.price(0, LAST, 1440), 180);
    }

    private static void metersAroundMidnight(int lastMinute) {
        String town = "places 1;rate 0 23 24 60;rate 0 0 1 120;stay 0 600";
        ParkingEnforcement x = at(lastMinute, town);
        CHECK.due("P48: the last minute", x.minutesFor(0, 1), 1);
        CHECK.due("P48: not the first one", x.minutesFor(0, 2), 1);
        CHECK.due("P48: the first one too", x.minutesFor(0, 3), 2);
        CHECK.due("P48: all that is allowed", x.minutesFor(0, 9999), 600);
        x.park(5, 0);
        CHECK.due("P7: the last minute", x.pay(5, 1), lastMinute + 1);
        CHECK.due("P7: half of the first one", x.pay(5, 1), -3);
        CHECK.due("P7: the first one", x.pay(5, 2), lastMinute + 2);
        CHECK.due("P7: all that is allowed", x.pay(5, 9999), lastMinute + 600);
        CHECK.due("P28: behind midnight", x.paidUntil(5), lastMinute + 600);
        CHECK.due("P53: 599 minutes", x.paidSoon(0, 599), 0);
        CHECK.due("P53: 600 minutes", x.paidSoon(0, 600), 32);
        CHECK.due("P40: logged in the last minute", x.logMinute(3), lastMinute);
    }

    private static void overtimeAroundMidnight() {
        ParkingEnforcement x = at(1439, "places 2;zone 1 1;rate 0 23 24 60;rate 1 0 1 60");
        x.park(0, 0);
        x.park(1, 1);
        x.advance(1);
        CHECK.due("P29: the last minute has a rate", x.overtime(0), 1);
        CHECK.due("P29: the last minute has none", x.overtime(1), 0);
        x.advance(1);
        CHECK.due("P29: the first minute has none", x.overtime(0), 1);
        CHECK.due("P29: the first minute has a rate", x.overtime(1), 1);
        goTo(x, 2880);
        CHECK.due("P29: hour 23 again", x.overtime(0), 61);
        CHECK.due("P29: hour 0 once", x.overtime(1), 60);
        goTo(x, LAST);
        CHECK.due("P29: hour 23 of six days, but a minute", x.overtime(0), 1 + 5 * 60 + 59);
        CHECK.due("P29: hour 0 of six days", x.overtime(1), 6 * 60);
    }

    private static void gapsAroundMidnight() {
        ParkingEnforcement x = at(1380, "places 1;rate 0 0 24 60;pound 0 1");
        x.park(0, 0);
        x.advance(20);
        x.inspect(0);
        goTo(x, 1519);
        CHECK.due("P9: 119 minutes over midnight", x.inspect(0), 0);
        x.advance(1);
        CHECK.due("P9: 120 minutes over midnight", x.inspect(0), 1);
        goTo(x, 2800);
        x.inspect(0);
        CHECK.due("P37: before midnight", x.clampedSince(0), 2800);
        goTo(x, 2979);
        CHECK.due("P38: 179 minutes over midnight", x.towable(), 0);
        x.advance(1);
        CHECK.due("P38: 180 minutes over midnight", x.towable(), 1);
    }

    // "if nothing else happens until then", behind minute 10079
    private static void inspectionsBehindTheEnd() {
        ParkingEnforcement x = at(LAST, "places 1;rate 0 9 10 60");
        x.park(3, 0);
        CHECK.due("P50: up to hour 9", x.ticketsAfter(0, 541), 0);
        CHECK.due("P50: a minute of hour 9", x.ticketsAfter(0, 542), 1);
        CHECK.due("P50: 600 minutes", x.ticketsAfter(0, 600), 1);
        ParkingEnforcement y = at(LAST, "places 1;rate 0 0 2 60");
        y.park(3, 0);
        CHECK.due("P51: minute 10079 has no rate", y.bestInspection(0, 1), 0);
        CHECK.due("P51: minute 10080 has one", y.bestInspection(0, 2), 2);
        CHECK.due("P51: 31 minutes of hour 0", y.bestInspection(0, 120), 32);
    }

    // "Returns the minute, which may be greater than 10079"
    private static void cheapestStartBehindTheEnd() {
        ParkingEnforcement x = at(LAST, "places 1;rate 0 0 23 60");
        CHECK.due("P47: the last minute itself", x.cheapestStart(0, 1), LAST);
        CHECK.due("P47: hour 23 of the next day", x.cheapestStart(0, 60), 10080 + 1380);
        CHECK.due("P47: two minutes of it", x.cheapestStart(0, 2), 10080 + 1380);
        ParkingEnforcement y = at(LAST, "places 1;rate 0 23 24 60");
        CHECK.due("P47: the first minute behind the end", y.cheapestStart(0, 60), 10080);
        ParkingEnforcement z = at(10021, "places 1;rate 0 0 23 60;rate 0 23 24 0");
        CHECK.due("P47: the last start of all", z.cheapestStart(0, 60), 10021 + 1439);
    }

    /** Car 0 gets 3000, 6500 and 7000 cents in tickets, the last one and all else in this minute. */
    private static ParkingEnforcement everythingIn(int minute) {
        ParkingEnforcement x = at(minute - 360, "places 2;spaces 0 8;rate 0 0 24 60;pound 0 1");
        x.park(0, 0);
        for (int round = 0; round < 3; round++) {
            x.advance(120);
            x.inspect(0);
        }
        x.park(5, 1);
        x.pay(5, 33);
        x.payFines(0, 24501);
        return x;
    }

    private static void sums(String what, ParkingEnforcement x, int day, int[] due) {
        int[] kinds = {2, 4, 5, 6, 7, 8};
        for (int i = 0; i < kinds.length; i++) {
            CHECK.due("P44: kind " + kinds[i] + ", " + what, x.daySum(day, kinds[i]), due[i]);
        }
        CHECK.due("P52: " + what, x.revenue(0, day), due[0]);
    }

    // "day d contains the minutes 1440 * d to 1440 * d + 1439"
    private static void sumsOfDays() {
        int[] none = {0, 0, 0, 0, 0, 0};
        int[] all = {33, 16500, 8000, 24501, 16500, 8000};
        int[] late = {33, 7000, 8000, 24501, 16500, 8000};
        int[] early = {0, 9500, 0, 0, 0, 0};
        ParkingEnforcement lastOfDay0 = everythingIn(1439);
        sums("minute 1439, day 0", lastOfDay0, 0, all);
        sums("minute 1439, day 1", lastOfDay0, 1, none);
        CHECK.due("P54: minute 1439, day 1", lastOfDay0.busiestPlace(1), -3);
        ParkingEnforcement firstOfDay1 = everythingIn(1440);
        sums("minute 1440, day 0", firstOfDay1, 0, early);
        sums("minute 1440, day 1", firstOfDay1, 1, late);
        CHECK.due("P54: minute 1440, day 0", firstOfDay1.busiestPlace(0), 0);
        CHECK.due("P54: minute 1440, day 1", firstOfDay1.busiestPlace(1), 1);
        ParkingEnforcement firstOfDay6 = everythingIn(8640);
        sums("minute 8640, day 5", firstOfDay6, 5, early);
        sums("minute 8640, day 6", firstOfDay6, 6, late);
        ParkingEnforcement lastOfAll = everythingIn(LAST);
        sums("minute 10079, day 5", lastOfAll, 5, none);
        sums("minute 10079, day 6", lastOfAll, 6, all);
        CHECK.due("P26: released in the last minute", lastOfAll.state(0), 1);
        CHECK.due("P28: paid until the last minute", lastOfAll.paidUntil(0), LAST);
        CHECK.due("P8: leaves in the last minute", lastOfAll.leave(0), 0);
        CHECK.due("P40: the last minute", lastOfAll.logMinute(lastOfAll.logCount() - 1), LAST);
    }

    // "Logs TOW, at the new minute." - so it belongs to the day in which the trip ends
    private static void towsAroundMidnight() {
        ParkingEnforcement x = at(900, "places 1;rate 0 0 24 60;pound 0 1");
        x.park(0, 0);
        for (int round = 0; round < 3; round++) {
            x.advance(100);
            x.inspect(0);
            x.advance(20);
        }
        goTo(x, 1429);
        x.saveSnapshot(0);
        x.towNext();
        CHECK.due("P15: the last minute of day 0", x.now(), 1439);
        CHECK.due("P44: day 0", x.daySum(0, 10), 15000);
        CHECK.due("P44: day 1", x.daySum(1, 10), 0);
        x.restoreSnapshot(0);
        x.advance(1);
        x.towNext();
        CHECK.due("P40: the first minute of day 1", x.logMinute(x.logCount() - 1), 1440);
        CHECK.due("P44: day 0, a minute later", x.daySum(0, 10), 0);
        CHECK.due("P44: day 1, a minute later", x.daySum(1, 10), 15000);
    }

    // "An entry belongs to the zone of the place of the latest PARK entry of the same car before it.", a day before
    private static void parkedTheDayBefore() {
        ParkingEnforcement x = at(1439, "places 2;zone 1 3;rate 0 0 24 60;rate 3 0 24 60");
        x.park(0, 1);
        x.pay(0, 1);
        x.advance(1);
        x.pay(0, 7);
        CHECK.due("P52: day 0, zone 3", x.revenue(3, 0), 1);
        CHECK.due("P52: day 1, zone 3", x.revenue(3, 1), 7);
        CHECK.due("P52: day 1, zone 0", x.revenue(0, 1), 0);
        CHECK.due("P54: day 0", x.busiestPlace(0), 1);
        CHECK.due("P54: day 1", x.busiestPlace(1), -3);
    }

    // "Of equal ones it is the place with the smallest number."
    private static void busiestPlace() {
        ParkingEnforcement x = CHECK.town("places 10");
        x.park(0, 9);
        CHECK.due("P54: one entry, place 9", x.busiestPlace(0), 9);
        x.park(1, 8);
        CHECK.due("P54: one each", x.busiestPlace(0), 8);
        x.park(2, 9);
        CHECK.due("P54: one more", x.busiestPlace(0), 9);
        x.park(3, 0);
        x.park(4, 0);
        CHECK.due("P54: two each, place 0", x.busiestPlace(0), 0);
    }

    public static void main(String[] args) {
        theLastMinute();
        hours();
        pricesBehindTheEnd();
        metersAroundMidnight(1439);
        metersAroundMidnight(LAST);
        overtimeAroundMidnight();
        gapsAroundMidnight();
        inspectionsBehindTheEnd();
        cheapestStartBehindTheEnd();
        sumsOfDays();
        towsAroundMidnight();
        parkedTheDayBefore();
        busiestPlace();
        CHECK.end();
    }
}
