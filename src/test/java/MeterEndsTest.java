/** Section 3 and promises 7, 8, 12, 28, 29, 46 to 48 and 53, sentence by sentence: meters, overtime and prices. */
public final class MeterEndsTest {
    private static final Check CHECK = new Check();

    /** One place, and car 1 parked there in minute 0. */
    private static ParkingEnforcement meter(String statements) {
        ParkingEnforcement x = CHECK.town("places 1;" + statements);
        x.park(1, 0);
        return x;
    }

    // "the bought time begins at that minute or now, whichever is later"
    private static void whicheverIsLater() {
        ParkingEnforcement x = meter("rate 0 0 24 60");
        CHECK.due("P7: both are now", x.pay(1, 10), 10);
        x.advance(9);
        CHECK.due("P7: paid for a minute more", x.pay(1, 5), 15);
        x.advance(6);
        CHECK.due("P7: paid until now", x.pay(1, 5), 20);
        x.advance(6);
        CHECK.due("P7: paid until a minute ago", x.pay(1, 5), 26);
    }

    // "Minute t costs as many sixtieths of a cent as the rate of the zone for its hour."
    private static void sixtieths() {
        CHECK.due("P7: rate 1, a cent", meter("rate 0 0 24 1").pay(1, 1), 60);
        CHECK.due("P7: rate 1, two cents", meter("rate 0 0 24 1").pay(1, 2), 120);
        CHECK.due("P7: rate 59, a cent", meter("rate 0 0 24 59").pay(1, 1), 1);
        CHECK.due("P7: rate 60, a cent", meter("rate 0 0 24 60").pay(1, 1), 1);
        CHECK.due("P7: rate 61, a cent", meter("rate 0 0 24 61").pay(1, 1), -3);
        CHECK.due("P7: rate 999, 16 cents", meter("rate 0 0 24 999").pay(1, 16), -3);
        CHECK.due("P7: rate 999, 17 cents", meter("rate 0 0 24 999").pay(1, 17), 1);
    }

    // "the greatest minute t for which the minutes s to t - 1 together cost at most the money"
    private static void atMostTheMoney() {
        CHECK.due("P7: an hour, exactly", meter("rate 0 0 24 999").pay(1, 999), 60);
        CHECK.due("P7: an hour, a cent less", meter("rate 0 0 24 999").pay(1, 998), 59);
        ParkingEnforcement x = CHECK.town("places 1;rate 0 0 1 60;rate 0 1 2 120");
        x.advance(50);
        CHECK.due("P48: up to the dearer hour", x.minutesFor(0, 10), 10);
        CHECK.due("P48: half of its first minute", x.minutesFor(0, 11), 10);
        CHECK.due("P48: its first minute", x.minutesFor(0, 12), 11);
        CHECK.due("P48: a minute less", x.minutesFor(0, 9), 9);
        CHECK.due("P48: nothing", x.minutesFor(0, 0), 0);
    }

    // "and which is not greater than now + the longest stay of the zone"
    private static void theLongestStay() {
        CHECK.due("P7: a minute less", meter("rate 0 0 24 60;stay 0 10").pay(1, 9), 9);
        CHECK.due("P7: just the stay", meter("rate 0 0 24 60;stay 0 10").pay(1, 10), 10);
        CHECK.due("P7: a cent more", meter("rate 0 0 24 60;stay 0 10").pay(1, 11), 10);
        CHECK.due("P7: 600 minutes", meter("rate 0 0 24 60;stay 0 600").pay(1, 9999), 600);
        CHECK.due("P7: 600 dear minutes", meter("rate 0 0 24 999;stay 0 600").pay(1, 9990), 600);
        CHECK.due("P7: 600 dear minutes, a cent less", meter("rate 0 0 24 999;stay 0 600").pay(1, 9989), 599);
        CHECK.due("P7: free, for a cent", meter("stay 0 10").pay(1, 1), 10);
        CHECK.due("P7: the usual stay", meter("rate 0 0 24 1").pay(1, 9999), 120);
        ParkingEnforcement x = CHECK.town("places 1;rate 0 0 24 60;stay 0 10");
        CHECK.due("P48: a minute less", x.minutesFor(0, 9), 9);
        CHECK.due("P48: just the stay", x.minutesFor(0, 10), 10);
        CHECK.due("P48: a cent more", x.minutesFor(0, 11), 10);
        CHECK.due("P48: free", CHECK.town("places 1;stay 0 600").minutesFor(0, 0), 600);
    }

    // "The rest of the money is lost."
    private static void theRestIsLost() {
        ParkingEnforcement x = meter("rate 0 0 24 90");
        CHECK.due("P7: two cents, for a minute and a third", x.pay(1, 2), 1);
        CHECK.due("P7: two cents again", x.pay(1, 2), 2);
        CHECK.due("P7: two cents once more", x.pay(1, 2), 3);
        CHECK.due("P35: it is no credit", x.credit(1), 0);
        CHECK.due("P43: but all of it is in the log", x.logAmount(3), 2);
    }

    // "The money buys no minute if t would not be greater than s."
    private static void noMinute() {
        ParkingEnforcement x = meter("rate 0 0 24 90;stay 0 10");
        CHECK.due("P7: too little money", x.pay(1, 1), -3);
        CHECK.due("P7: all that is allowed", x.pay(1, 15), 10);
        CHECK.due("P7: no minute is allowed", x.pay(1, 9999), -3);
        x.advance(1);
        CHECK.due("P7: a minute is allowed, but dearer", x.pay(1, 1), -3);
        CHECK.due("P7: a minute is allowed", x.pay(1, 2), 11);
        CHECK.due("P7: no more", x.pay(1, 2), -3);
        CHECK.due("P28: paid", x.paidUntil(1), 11);
        CHECK.due("P39: two were logged", x.logCount(), 3);
    }

    private static void hoursWithoutARate() {
        ParkingEnforcement x = meter("rate 0 1 2 120;stay 0 600");
        CHECK.due("P7: up to the first minute that costs", x.pay(1, 1), 60);
        CHECK.due("P7: that costs more", x.pay(1, 1), -3);
        CHECK.due("P7: all but one of them", x.pay(1, 118), 119);
        CHECK.due("P7: and all behind them", x.pay(1, 2), 600);
    }

    // "What was paid before is not affected."
    private static void paidBeforeTheRateChanged() {
        ParkingEnforcement x = meter("rate 0 0 24 60");
        x.pay(1, 20);
        x.setRate(0, 0, 999);
        CHECK.due("P12: paid still", x.paidUntil(1), 20);
        x.advance(20);
        CHECK.due("P12: no overtime", x.overtime(1), 0);
        CHECK.due("P12: the new rate", x.pay(1, 17), 21);
    }

    // "the number of minutes from the minute until which it is paid to now - 1 for which the rate .. is greater than 0"
    private static void overtime() {
        ParkingEnforcement x = meter("rate 0 0 24 1");
        CHECK.due("P29: in the minute of parking", x.overtime(1), 0);
        x.advance(1);
        CHECK.due("P29: a minute on", x.overtime(1), 1);
        x.pay(1, 1);
        CHECK.due("P29: paid for long", x.overtime(1), 0);
        x.advance(59);
        CHECK.due("P29: the last paid minute", x.overtime(1), 0);
        x.advance(1);
        CHECK.due("P29: paid until now", x.overtime(1), 0);
        x.advance(1);
        CHECK.due("P29: the first minute that is not paid", x.overtime(1), 1);
        x.setRate(0, 1, 0);
        CHECK.due("P29: without a rate", x.overtime(1), 0);
    }

    private static void overtimeAroundHours() {
        ParkingEnforcement x = meter("rate 0 1 2 1");
        x.advance(60);
        CHECK.due("P29: up to the hour", x.overtime(1), 0);
        x.advance(1);
        CHECK.due("P29: its first minute", x.overtime(1), 1);
        x.advance(58);
        CHECK.due("P29: all but its last minute", x.overtime(1), 59);
        x.advance(1);
        CHECK.due("P29: all of it", x.overtime(1), 60);
        x.advance(1);
        CHECK.due("P29: behind it", x.overtime(1), 60);
        x.advance(1440 - 61);
        CHECK.due("P29: up to it on the next day", x.overtime(1), 60);
        x.advance(1);
        CHECK.due("P29: its first minute on the next day", x.overtime(1), 61);
        CHECK.due("P8: leaves with it", x.leave(1), 61);
    }

    // "the sum of the rates of its minutes, divided by 60 and rounded up"
    private static void priceIsRoundedUp() {
        ParkingEnforcement x = CHECK.town("places 1;rate 0 0 24 1");
        int[][] due = {{0, 0}, {1, 1}, {59, 1}, {60, 1}, {61, 2}, {120, 2}, {121, 3}, {1439, 24}, {1440, 24}};
        for (int[] row : due) {
            CHECK.due("P46: " + row[0] + " minutes", x.price(0, 0, row[0]), row[1]);
        }
        CHECK.due("P46: rate 60", CHECK.town("places 1;rate 0 0 24 60").price(0, 0, 1), 1);
        CHECK.due("P46: rate 61", CHECK.town("places 1;rate 0 0 24 61").price(0, 0, 1), 2);
        CHECK.due("P46: the dearest", CHECK.town("places 1;rate 0 0 24 999").price(0, 0, 1440), 999 * 24);
    }

    // "among the minutes now, now + 1, ..., now + 1439"; "Of equal ones it is the earliest."
    private static void cheapestStart() {
        ParkingEnforcement x = CHECK.town("places 1;rate 0 0 24 999;rate 0 1 2 0");
        x.advance(59);
        CHECK.due("P47: a minute on", x.cheapestStart(0, 60), 60);
        x.advance(1);
        CHECK.due("P47: now, and not a day on", x.cheapestStart(0, 60), 60);
        x.advance(1);
        CHECK.due("P47: 1439 minutes on", x.cheapestStart(0, 60), 61 + 1439);
        CHECK.due("P47: now, of equal ones", x.cheapestStart(0, 59), 61);
        x.advance(1);
        CHECK.due("P47: 1438 minutes on", x.cheapestStart(0, 60), 62 + 1438);
        CHECK.due("P47: all are equal", CHECK.town("places 1;rate 0 0 24 999").cheapestStart(0, 600), 0);
    }

    // "has the smallest price (see price)", which is rounded up
    private static void cheapestStartByRoundedPrices() {
        ParkingEnforcement x = CHECK.town("places 1;rate 0 0 24 60;rate 0 2 3 59");
        CHECK.due("P47: a minute is a cent at 59 too", x.cheapestStart(0, 1), 0);
        CHECK.due("P47: 59 minutes are 59 cents at 59 too", x.cheapestStart(0, 59), 0);
        CHECK.due("P47: 60 minutes are 59 cents", x.cheapestStart(0, 60), 120);
        CHECK.due("P47: 61 minutes are 60 cents", x.cheapestStart(0, 61), 119);
    }

    // "also those that are paid until now or less"
    private static void paidSoon() {
        ParkingEnforcement x = CHECK.town("places 1;spaces 0 8;rate 0 0 24 60;stay 0 600");
        for (int car = 0; car < 5; car++) {
            x.park(car, 0);
        }
        x.pay(1, 9);
        x.pay(2, 10);
        x.pay(3, 11);
        x.pay(4, 600);
        x.advance(10);
        CHECK.due("P53: until now or less", x.paidSoon(0, 0), 7);
        CHECK.due("P53: until a minute on", x.paidSoon(0, 1), 15);
        CHECK.due("P53: until 589 minutes on", x.paidSoon(0, 589), 15);
        CHECK.due("P53: until 590 minutes on", x.paidSoon(0, 590), 31);
        CHECK.due("P53: until 600 minutes on", x.paidSoon(0, 600), 31);
    }

    public static void main(String[] args) {
        whicheverIsLater();
        sixtieths();
        atMostTheMoney();
        theLongestStay();
        theRestIsLost();
        noMinute();
        hoursWithoutARate();
        paidBeforeTheRateChanged();
        overtime();
        overtimeAroundHours();
        priceIsRoundedUp();
        cheapestStart();
        cheapestStartByRoundedPrices();
        paidSoon();
        CHECK.end();
    }
}
