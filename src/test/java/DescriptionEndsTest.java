/** Section 2 of the document, sentence by sentence: the ends of its ranges and the places of its errors. */
public final class DescriptionEndsTest {
    private static final Check CHECK = new Check();

    /** Reads a description in a new object; 510 bytes at most, so that the calls stay within 512. */
    private static void read(String text, int answer, int error) {
        ParkingEnforcement x = new ParkingEnforcement();
        Check.append(x, text);
        CHECK.due("load of '" + text + "'", x.load(), answer);
        CHECK.due("loadError of '" + text + "'", x.loadError(), error);
    }

    private static void good(String text, int places) {
        read(text, places, 0);
    }

    /** An error at the position of the mark !, which is not a part of the text. */
    private static void wrong(int error, String marked) {
        int position = marked.indexOf('!');
        read(marked.substring(0, position) + marked.substring(position + 1), -100 - position, error);
    }

    /** A statement with a number at the end of its range, behind a statement for so many places. */
    private static ParkingEnforcement town(int places, String statement) {
        return CHECK.town("places " + places + ";" + statement);
    }

    // "The first statement is: places N (N from 1 to 10)."
    private static void placesN() {
        wrong(2, "places !0");
        good("places 1", 1);
        good("places 10", 10);
        wrong(2, "places !11");
        wrong(2, "places !99999999999999999999");
    }

    private static void theFirstStatement() {
        wrong(1, "!stay 0 60");
        wrong(1, "!stay 0 60;places 2");
        wrong(1, "!;places 2");
        wrong(1, "places 2;!places 2");
        wrong(1, "places 2;stay 0 60;!places 3");
    }

    // "A town has 1 to 10 places, numbered from 0"
    private static void aPlace() {
        String[] keywords = {"zone", "spaces", "pound"};
        for (String keyword : keywords) {
            good("places 1;" + keyword + " 0 1", 1);
            wrong(2, "places 1;" + keyword + " !1 1");
            good("places 10;" + keyword + " 9 1", 10);
            wrong(2, "places 10;" + keyword + " !10 1");
            wrong(1, "places 10;" + keyword + " !-1 1");
        }
    }

    // "road A B MINUTES (1 to 99)"
    private static void road() {
        good("places 10;road 0 9 5", 10);
        good("places 10;road 9 0 5", 10);
        wrong(2, "places 10;road !10 0 5");
        wrong(2, "places 10;road 0 !10 5");
        wrong(2, "places 1;road !1 0 5");
        wrong(2, "places 1;road 0 !1 5");
        wrong(2, "places 2;road 0 1 !0");
        CHECK.due("road of 1 minute", town(2, "road 0 1 1").distance(0, 1), 1);
        CHECK.due("road of 99 minutes", town(2, "road 0 1 99").distance(0, 1), 99);
        wrong(2, "places 2;road 0 1 !100");
    }

    // "zone PLACE ZONE"; "belongs to one of the zones 0 to 3"
    private static void zone() {
        CHECK.due("zone 0", town(2, "zone 1 3;zone 1 0").zone(1), 0);
        CHECK.due("zone 3", town(2, "zone 1 3").zone(1), 3);
        wrong(2, "places 2;zone 1 !4");
        wrong(1, "places 2;zone 1 !-1");
    }

    // "rate ZONE FROM TO CENTS (hours FROM, 0 to 23, to TO - 1; TO is FROM + 1 to 24; CENTS 0 to 999)"
    private static void rateZone() {
        CHECK.due("rate of zone 0", town(1, "rate 0 5 6 77").rate(0, 5), 77);
        CHECK.due("rate of zone 3", town(1, "rate 3 5 6 77").rate(3, 5), 77);
        wrong(2, "places 1;rate !4 5 6 77");
    }

    private static void rateHours() {
        ParkingEnforcement first = town(1, "rate 1 0 1 77");
        CHECK.due("hour 0 alone, hour 0", first.rate(1, 0), 77);
        CHECK.due("hour 0 alone, hour 1", first.rate(1, 1), 0);
        ParkingEnforcement last = town(1, "rate 1 23 24 77");
        CHECK.due("hour 23 alone, hour 22", last.rate(1, 22), 0);
        CHECK.due("hour 23 alone, hour 23", last.rate(1, 23), 77);
        ParkingEnforcement all = town(1, "rate 1 0 24 77");
        for (int hour = 0; hour < 24; hour++) {
            CHECK.due("all hours, hour " + hour, all.rate(1, hour), 77);
        }
        ParkingEnforcement some = town(1, "rate 1 7 9 77");
        CHECK.due("hours 7 and 8, hour 6", some.rate(1, 6), 0);
        CHECK.due("hours 7 and 8, hour 7", some.rate(1, 7), 77);
        CHECK.due("hours 7 and 8, hour 8", some.rate(1, 8), 77);
        CHECK.due("hours 7 and 8, hour 9", some.rate(1, 9), 0);
        wrong(2, "places 1;rate 1 !24 24 77");
        wrong(2, "places 1;rate 1 !24 25 77");
        wrong(2, "places 1;rate 1 0 !0 77");
        wrong(2, "places 1;rate 1 7 !7 77");
        wrong(2, "places 1;rate 1 7 !6 77");
        wrong(2, "places 1;rate 1 23 !23 77");
        wrong(2, "places 1;rate 1 23 !25 77");
        wrong(2, "places 1;rate 1 0 !25 77");
    }

    private static void rateCents() {
        CHECK.due("0 cents", town(1, "rate 1 0 24 5;rate 1 0 24 0").rate(1, 0), 0);
        CHECK.due("999 cents", town(1, "rate 1 0 24 999").rate(1, 0), 999);
        wrong(2, "places 1;rate 1 0 24 !1000");
    }

    // "stay ZONE MINUTES (10 to 600)"
    private static void stay() {
        CHECK.due("stay of zone 0", town(1, "stay 0 10").longestStay(0), 10);
        CHECK.due("stay of zone 3", town(1, "stay 3 600").longestStay(3), 600);
        wrong(2, "places 1;stay !4 60");
        wrong(2, "places 1;stay 0 !9");
        wrong(2, "places 1;stay 0 !601");
    }

    // "spaces PLACE N (0 to 8)"
    private static void spaces() {
        CHECK.due("0 spaces", town(1, "spaces 0 0").freeSpaces(0), 0);
        CHECK.due("8 spaces", town(1, "spaces 0 8").freeSpaces(0), 8);
        wrong(2, "places 1;spaces 0 !9");
        wrong(1, "places 1;spaces 0 !-1");
    }

    // "pound PLACE N (1 to 6)"
    private static void pound() {
        wrong(2, "places 1;pound 0 !0");
        CHECK.due("a pound for 1", town(1, "pound 0 1").poundFree(0), 1);
        CHECK.due("a pound for 6", town(1, "pound 0 6").poundFree(0), 6);
        wrong(2, "places 1;pound 0 !7");
    }

    // "They may occur in any order and any number of times."
    private static void anyOrder() {
        good("places 3;pound 2 1;spaces 1 1;stay 1 60;rate 1 0 1 5;zone 1 1;road 0 1 5", 3);
        good("places 3;road 0 1 5;zone 1 1;rate 1 0 1 5;stay 1 60;spaces 1 1;pound 2 1;"
                + "road 0 1 5;zone 1 1;rate 1 0 1 5;stay 1 60;spaces 1 1;pound 2 1", 3);
    }

    // "A later statement replaces what an earlier one said; two roads between the same places are both there."
    private static void laterStatements() {
        ParkingEnforcement x = town(2, "zone 1 3;zone 1 2;stay 2 600;stay 2 10;spaces 1 8;spaces 1 0;"
                + "pound 1 6;pound 0 2;pound 1 1;rate 2 0 24 5;rate 2 3 5 0;rate 2 4 6 9");
        CHECK.due("the later zone", x.zone(1), 2);
        CHECK.due("the later stay", x.longestStay(2), 10);
        CHECK.due("the later spaces", x.freeSpaces(1), 0);
        CHECK.due("the later pound", x.poundFree(1), 1);
        int[] rates = {5, 5, 5, 0, 9, 9, 5};
        for (int hour = 0; hour < rates.length; hour++) {
            CHECK.due("the later rate, hour " + hour, x.rate(2, hour), rates[hour]);
        }
        CHECK.due("the later road is longer", town(2, "road 0 1 5;road 1 0 6").distance(0, 1), 5);
        CHECK.due("the later road is shorter", town(2, "road 0 1 5;road 1 0 4").distance(0, 1), 4);
    }

    // "What is not described is: zone 0, rate 0, longest stay 120, 2 spaces, no pound, no roads."
    private static void whatIsNotDescribed() {
        ParkingEnforcement x = town(10, "zone 4 1;rate 1 5 6 7;stay 1 60;spaces 4 1;pound 4 1;road 4 5 1");
        for (int place = 0; place < 10; place++) {
            boolean described = place == 4;
            CHECK.due("zone of " + place, x.zone(place), described ? 1 : 0);
            CHECK.due("spaces of " + place, x.freeSpaces(place), described ? 1 : 2);
            CHECK.due("pound of " + place, x.poundFree(place), described ? 1 : -3);
            CHECK.due("way from 4 to " + place, x.distance(4, place), described ? 0 : place == 5 ? 1 : -3);
        }
        for (int number = 0; number < 4; number++) {
            CHECK.due("stay of zone " + number, x.longestStay(number), number == 1 ? 60 : 120);
            for (int hour = 0; hour < 24; hour++) {
                CHECK.due("rate of zone " + number, x.rate(number, hour), number == 1 && hour == 5 ? 7 : 0);
            }
        }
    }

    // "A keyword is a maximal run of lower-case letters" - the bytes next to a and z, and upper-case letters
    private static void endsOfAKeyword() {
        wrong(1, "!placesa 1");
        wrong(1, "!placesz 1");
        wrong(1, "places!` 1");
        wrong(1, "places!{ 1");
        wrong(1, "places!S 1");
        wrong(1, "!aplaces 1");
        wrong(1, "!zplaces 1");
        wrong(1, "!place 1");
        wrong(1, "!pla ces 1");
        wrong(1, "!PLACES 1");
        wrong(1, "places 2;!roadzone 0 1");
        good("places 2;zone 0 1", 2);
    }

    // "a number a maximal run of digits" - the bytes next to 0 and 9
    private static void endsOfANumber() {
        wrong(1, "places 1!/");
        wrong(1, "places 1!:");
        wrong(1, "places !/1");
        wrong(1, "places !:1");
        wrong(1, "places !+1");
        wrong(1, "places 1 !0");
        wrong(1, "places 2;stay 0 60!.0");
        good("places 2;rate 0 0 24 980;rate 0 0 9 909", 2);
        good("places 0000000000000000000000000000000000000003", 3);
        wrong(2, "places !0000000000000000000000000000000000000011");
        wrong(2, "places !4294967298");
        wrong(2, "places !18446744073709551618");
    }

    // "Spaces (byte 32) may stand before and after keywords, numbers and semicolons."
    private static void spacesBetween() {
        good("   places   2   ;   stay   0   60   ", 2);
        good("places2;stay0 60;road0 1 5", 2);
        wrong(1, "places!" + (char) 31 + "2");
        wrong(1, "places!" + (char) 33 + "2");
        wrong(1, "places!" + (char) 9 + "2");
        wrong(1, "places 2!" + (char) 10);
        wrong(1, "places 2!" + (char) 0);
        wrong(1, "places 2!" + (char) 160);
        wrong(1, "places 2!" + (char) 255);
        wrong(1, "!" + (char) 0 + "places 2");
    }

    // "a list of statements, separated by semicolons" - the bytes next to it, none, and two
    private static void semicolons() {
        wrong(1, "places 2!:stay 0 60");
        wrong(1, "places 2!<stay 0 60");
        wrong(1, "places 2 !stay 0 60");
        wrong(1, "places 2!stay 0 60");
        wrong(1, "places 2;!;stay 0 60");
        wrong(1, "places 2; !;stay 0 60");
        wrong(1, "places 2;stay 0 60;!");
        wrong(1, "places !;stay 0 60");
        wrong(1, "places 2;stay 0!;");
        wrong(1, "places 2;stay 0 60 !70");
    }

    // "or the description ends too early (position: its length)"
    private static void cutOff(String statement) {
        String front = "places 2;";
        int keyword = statement.indexOf(' ');
        for (int length = 0; length < statement.length(); length++) {
            // A part of a keyword is a keyword that cannot stand there.
            int position = front.length() + (length >= keyword ? length : 0);
            read(front + statement.substring(0, length), -100 - position, 1);
        }
        good(front + statement, 2);
    }

    private static void endsTooEarly() {
        wrong(1, "!");
        wrong(1, " !");
        wrong(1, "places!");
        wrong(1, "places !");
        wrong(1, "places 2;!");
        wrong(1, "places 2; !");
        cutOff("road 0 1 5");
        cutOff("zone 1 3");
        cutOff("rate 3 0 9 5");
        cutOff("spaces 1 8");
        cutOff("pound 1 6");
        wrong(1, "places 2;!sta");
        wrong(1, "places 2;stay!");
        wrong(1, "places 2;stay !");
        wrong(1, "places 2;stay 2!");
        wrong(1, "places 2;stay 2 !");
        good("places 2;stay 2 60", 2);
    }

    // A number that is cut off is a smaller one, which may be out of its range.
    private static void aNumberThatIsCutOff() {
        wrong(2, "places 2;stay 0 !6");
        wrong(2, "places 2;rate 0 5 !2");
        wrong(1, "places 2;rate 0 1 2!");
    }

    // "The description is read from left to right; the first error ends it."
    private static void theFirstErrorEndsIt() {
        wrong(1, "places 2;!toad 0 0 5;places 0");
        wrong(2, "places 2;zone !2 9;?");
        wrong(2, "places !0;?");
        wrong(3, "places 2;road 1 !1 0");
        wrong(2, "places 2;road !2 2 5");
        wrong(1, "places 2!??");
        wrong(2, "places 2;zone !2");
        wrong(2, "places 2;rate !4");
        wrong(2, "places 2;rate 0 !24");
        wrong(2, "places !11;pound 0 1;pound 1 1;pound 2 1");
    }

    // "Error 3: a road leads from a place to itself (position of the first digit of B)"
    private static void aRoadToItself() {
        wrong(3, "places 1;road 0 !0 5");
        wrong(3, "places 10;road 9 !9 99");
        wrong(3, "places 10;road 9   !009 99");
        wrong(3, "places 2;road 1 !01");
        good("places 2;road 1 0 5", 2);
    }

    // "or a third place gets a pound (position of the first digit of PLACE; found before the number N is read)"
    private static void aThirdPound() {
        String two = "places 4;pound 3 1;pound 0 2";
        good(two, 4);
        good(two + ";pound 3 6;pound 0 6;pound 3 1", 4);
        wrong(3, two + ";pound !1 1");
        wrong(3, two + ";pound !2 6");
        wrong(3, two + ";pound !2");
        wrong(3, two + ";pound !2 ");
        wrong(3, two + ";pound !2 0");
        wrong(3, two + ";pound !2 7");
        wrong(3, two + ";pound !2 x");
        wrong(3, two + ";pound 3 1;pound !2 1");
        wrong(2, two + ";pound !4 1");
        wrong(2, two + ";pound 3 !0");
        wrong(1, two + ";pound 3!");
    }

    // The longest text within 512 calls: 510 bytes, load and loadError.
    private static void theLongestDescription() {
        String text = "places 3";
        String spaces = " ".repeat(510 - text.length());
        good(text + spaces, 3);
        good(spaces + text, 3);
        wrong(1, text + spaces.substring(1) + "!x");
        wrong(1, text + spaces.substring(1) + ";!");
        wrong(1, " ".repeat(510) + "!");
        wrong(2, spaces.substring(1) + "places !11");
        good("places 3" + ";zone 2 1".repeat(55), 3);
    }

    public static void main(String[] args) {
        placesN();
        theFirstStatement();
        aPlace();
        road();
        zone();
        rateZone();
        rateHours();
        rateCents();
        stay();
        spaces();
        pound();
        anyOrder();
        laterStatements();
        whatIsNotDescribed();
        endsOfAKeyword();
        endsOfANumber();
        spacesBetween();
        semicolons();
        endsTooEarly();
        aNumberThatIsCutOff();
        theFirstErrorEndsIt();
        aRoadToItself();
        aThirdPound();
        theLongestDescription();
        CHECK.end();
    }
}
