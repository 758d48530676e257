/** Promises 1 to 4, 12 and 16 to 21: the new object, descriptions and what is asked of a town. */
public final class TownTest {
    private static final Check CHECK = new Check();

    private static void promise1() {
        ParkingEnforcement x = new ParkingEnforcement();
        CHECK.due("P1: placeCount", x.placeCount(), 1);
        CHECK.due("P1: zone(0)", x.zone(0), 0);
        for (int zone = 0; zone < 4; zone++) {
            CHECK.due("P1: longestStay", x.longestStay(zone), 120);
            for (int hour = 0; hour < 24; hour++) {
                CHECK.due("P1: rate", x.rate(zone, hour), 0);
            }
        }
        CHECK.due("P1: freeSpaces(0)", x.freeSpaces(0), 2);
        CHECK.due("P1: poundFree(0)", x.poundFree(0), -3);
        CHECK.due("P1: truck", x.truck(), -3);
        CHECK.due("P1: now", x.now(), 0);
        CHECK.due("P1: logCount", x.logCount(), 0);
        CHECK.due("P1: loadError", x.loadError(), 0);
        CHECK.due("P1: restoreSnapshot(0)", x.restoreSnapshot(0), -3);
        CHECK.due("P1: restoreSnapshot(1)", x.restoreSnapshot(1), -3);
        for (int car = 0; car < 16; car++) {
            CHECK.due("P1: state", x.state(car), 0);
            CHECK.due("P1: ticketCount", x.ticketCount(car), 0);
            CHECK.due("P1: fees", x.fees(car), 0);
            CHECK.due("P1: credit", x.credit(car), 0);
        }
        CHECK.due("P1: the buffer is empty", x.appendByte(0), 1);
    }

    private static void promise2() {
        ParkingEnforcement x = new ParkingEnforcement();
        CHECK.due("P2: -1", x.appendByte(-1), -1);
        CHECK.due("P2: 256", x.appendByte(256), -1);
        CHECK.due("P2: least", x.appendByte(Integer.MIN_VALUE), -1);
        CHECK.due("P2: 0", x.appendByte(0), 1);
        CHECK.due("P2: 255", x.appendByte(255), 2);
        ParkingEnforcement full = new ParkingEnforcement();
        Check.append(full, "places 3");
        // 600 bytes take more calls than the document covers; the class has no count of calls.
        for (int length = 9; length <= 600; length++) {
            CHECK.due("P2: length", full.appendByte(' '), length);
        }
        CHECK.due("P2: a full buffer", full.appendByte(' '), -1);
        CHECK.due("P2: a full buffer again", full.appendByte('x'), -1);
        CHECK.due("P2: it is read whole", full.load(), 3);
        CHECK.due("P2: it is empty then", full.appendByte('p'), 1);
    }

    private static void read(String text, int answer, int error) {
        ParkingEnforcement x = new ParkingEnforcement();
        x.setRate(2, 5, 77);
        x.park(9, 0);
        Check.append(x, text);
        CHECK.due("P3: load of '" + text + "'", x.load(), answer);
        CHECK.due("P4: loadError of '" + text + "'", x.loadError(), error);
        CHECK.due("P3: places then of '" + text + "'", x.placeCount(), answer > 0 ? answer : 1);
        CHECK.due("P3: the old rate after '" + text + "'", x.rate(2, 5), answer > 0 ? 0 : 77);
        CHECK.due("P3: the old car after '" + text + "'", x.state(9), answer > 0 ? 0 : 1);
        CHECK.due("P3: the old log after '" + text + "'", x.logCount(), answer > 0 ? 0 : 1);
        CHECK.due("P3: the buffer after '" + text + "'", x.appendByte('p'), 1);
    }

    private static void promise3Good() {
        read("places 1", 1, 0);
        read("places 10", 10, 0);
        read("places1", 1, 0);
        read("  places   3  ", 3, 0);
        read("places 007", 7, 0);
        read("places 0000000000000000000000000000010", 10, 0);
        read("places 2;road 0 1 1", 2, 0);
        read("places2;road0 1 99", 2, 0);
        read("places 2 ; road 1 0 5 ;zone 1 3 ; stay 3 600", 2, 0);
        read("places 2;zone 0 0;zone 1 0;zone 1 3", 2, 0);
        read("places 2;rate 1 0 1 0;rate 3 23 24 999", 2, 0);
        read("places 2;stay 0 10;spaces 0 0;spaces 1 8", 2, 0);
        read("places 2;pound 0 1;pound 1 6;pound 0 2;pound 1 1", 2, 0);
    }

    private static void promise3Misplaced() {
        read("", -100, 1);
        read("   ", -103, 1);
        read("plac", -100, 1);
        read(" plac 3", -101, 1);
        read("Places 1", -100, 1);
        read("blaces 1", -100, 1);
        read("placet 1", -100, 1);
        read("places 2;toad 0 1 5", -109, 1);
        read("places 2;pouns 0 1", -109, 1);
        read("places 2;roads 0 1 5", -109, 1);
        read("places 2;roa 0 1 5", -109, 1);
        read("placeS 1", -100, 1);
        read("placesx 1", -100, 1);
        read("7", -100, 1);
        read("\u0000places 1", -100, 1);
        read("places", -106, 1);
        read("places ", -107, 1);
        read("places x", -107, 1);
        read("places -1", -107, 1);
        read("places\t1", -106, 1);
        read("places 1x", -108, 1);
        read("places 1 2", -109, 1);
        read("places 1;", -109, 1);
        read("places 1; ", -110, 1);
        read("places 1;;stay 0 60", -109, 1);
        read("places 1;7", -109, 1);
        read(";places 1", -100, 1);
        read("road 0 1 5", -100, 1);
        read("places 2;places 2", -109, 1);
        read("places 2; foo 1", -110, 1);
        read("places 2;road", -113, 1);
        read("places 2;road 0 1", -117, 1);
        read("places 2;road 0 1 ", -118, 1);
        read("places 2;road 0;", -115, 1);
        read("places 2;road 0 1 5 6", -120, 1);
        read("places 2;road 0 1 5 road 0 1 5", -120, 1);
        read("places 2;road 0 1 5;zone", -124, 1);
        read("places 2;stay 0 60" + (char) 233, -118, 1);
    }

    private static void promise3OutOfRange() {
        read("places 0", -107, 2);
        read("places 11", -107, 2);
        read("places 11x", -107, 2);
        read("places  4294967297", -108, 2);
        read("places 18446744073709551617", -107, 2);
        read("places 2;road 0 1 0", -118, 2);
        read("places 2;road 0 1 100", -118, 2);
        read("places 2;road 0 2 5", -116, 2);
        read("places 2;road 2 0 5", -114, 2);
        read("places 2;road 2 2 5", -114, 2);
        read("places 2;zone 2 0", -114, 2);
        read("places 2;zone 0 4", -116, 2);
        read("places 2;rate 4 0 1 1", -114, 2);
        read("places 2;rate 3 24 24 1", -116, 2);
        read("places 2;rate 3 5 5 1", -118, 2);
        read("places 2;rate 3 5 25 1", -118, 2);
        read("places 2;rate 3 23 24 1000", -122, 2);
        read("places 2;stay 4 60", -114, 2);
        read("places 2;stay 0 9", -116, 2);
        read("places 2;stay 0 601", -116, 2);
        read("places 2;spaces 2 1", -116, 2);
        read("places 2;spaces 0 9", -118, 2);
        read("places 2;pound 2 1", -115, 2);
        read("places 2;pound 0 0", -117, 2);
        read("places 2;pound 0 7", -117, 2);
        read("places 3;pound 0 1;pound 1 1;pound 3 9", -135, 2);
        read("places 3;pound 0 1;pound 1 1;pound 0 9", -137, 2);
    }

    private static void promise3NotAllowed() {
        read("places 2;road 1 1 5", -116, 3);
        read("places 2;road 1 1", -116, 3);
        read("places 2;road 1 01x", -116, 3);
        read("places 2;road 1 1 0", -116, 3);
        read("places 3;pound 0 1;pound 1 1;pound 2 1", -135, 3);
        read("places 3;pound 0 1;pound 1 1;pound 2 9", -135, 3);
        read("places 3;pound 0 1;pound 1 1;pound 2", -135, 3);
        read("places 3;pound 0 1;pound 0 2;pound 1 1;pound 2 1", -145, 3);
    }

    private static void promise3State() {
        ParkingEnforcement x = CHECK.town("places 3;pound 2 1;pound 0 1;pound 2 3;rate 0 0 24 60;spaces 1 8");
        CHECK.due("P3: the truck at the first pound", x.truck(), 2);
        CHECK.due("P3: the later size of the pound", x.poundFree(2), 3);
        x.park(3, 1);
        x.advance(100);
        x.inspect(1);
        x.payFines(3, 100);
        Check.append(x, "places 2");
        CHECK.due("P3: another town", x.load(), 2);
        CHECK.due("P3: minute", x.now(), 0);
        CHECK.due("P3: log", x.logCount(), 0);
        CHECK.due("P3: car", x.state(3), 0);
        CHECK.due("P3: tickets", x.ticketCount(3), 0);
        CHECK.due("P3: credit", x.credit(3), 0);
        CHECK.due("P3: due", x.due(3), 0);
        CHECK.due("P3: pound", x.poundFree(0), -3);
        CHECK.due("P3: truck", x.truck(), -3);
        CHECK.due("P3: rate", x.rate(0, 0), 0);
        CHECK.due("P3: spaces", x.freeSpaces(1), 2);
        x.setRate(0, 0, 60);
        x.park(3, 0);
        x.advance(10);
        CHECK.due("P3: a ticket that was written before does not count", x.inspect(0), 1);
    }

    private static void promise3AfterAnEarlierText() {
        ParkingEnforcement x = new ParkingEnforcement();
        Check.append(x, "places 10;zone 9 3;stay 0 60;rate 1 0 24 5;road 0 1 5;spaces 0 7");
        CHECK.due("P3: a long text", x.load(), 10);
        Check.append(x, "places 1");
        CHECK.due("P3: the bytes behind the end do not count", x.load(), 1);
        Check.append(x, "places ");
        CHECK.due("P3: nor do they where a number must stand", x.load(), -107);
        Check.append(x, "places 10");
        CHECK.due("P3: ten places again", x.load(), 10);
        CHECK.due("P19: the zone is not the old one", x.zone(9), 0);
        CHECK.due("P21: the stay is not the old one", x.longestStay(0), 120);
        CHECK.due("P20: the rate is not the old one", x.rate(1, 7), 0);
        CHECK.due("P17: the road is not there", x.distance(0, 1), -3);
        CHECK.due("P22: the spaces are not the old ones", x.freeSpaces(0), 2);
        Check.append(x, "places 3;pound 0 1;pound 1 1;pound 2 1");
        CHECK.due("P3: an error", x.load(), -135);
        Check.append(x, "places 3;pound 2 1;pound 1 1");
        CHECK.due("P3: the pounds before an error do not count", x.load(), 3);
        CHECK.due("P25: nor is the truck there", x.truck(), 2);
    }

    private static void promise3ClearsTheCars() {
        ParkingEnforcement x = CHECK.town("places 1;rate 0 0 24 60;pound 0 1");
        x.park(3, 0);
        for (int round = 0; round < 3; round++) {
            x.advance(120);
            x.inspect(0);
        }
        x.payFines(3, 3500);
        Check.append(x, "places 1;rate 0 0 24 60;pound 0 1");
        x.load();
        CHECK.due("P3: no ticket is paid", x.isTicketPaid(3, 0), false);
        CHECK.due("P3: no fees", x.fees(3), 0);
        CHECK.due("P3: no credit", x.credit(3), 0);
        CHECK.due("P3: nothing is due", x.due(3), 0);
        CHECK.due("P3: nothing to pay", x.payFines(3, 1), -3);
        x.park(3, 0);
        x.advance(10);
        x.inspect(0);
        CHECK.due("P3: a new ticket is not paid", x.isTicketPaid(3, 0), false);
        CHECK.due("P3: the new ticket is due", x.due(3), 1500);
    }

    private static void promise4() {
        ParkingEnforcement x = new ParkingEnforcement();
        CHECK.due("P4: no call", x.loadError(), 0);
        x.load();
        CHECK.due("P4: error 1", x.loadError(), 1);
        x.appendByte('p');
        CHECK.due("P4: it stays", x.loadError(), 1);
        x.saveSnapshot(0);
        x.load();
        Check.append(x, "places 2;road 0 0 1");
        x.load();
        CHECK.due("P4: error 3", x.loadError(), 3);
        x.restoreSnapshot(0);
        CHECK.due("P4: a snapshot has it not", x.loadError(), 3);
        Check.append(x, "places 2");
        x.load();
        CHECK.due("P4: no error", x.loadError(), 0);
    }

    private static void promise12And20() {
        ParkingEnforcement x = CHECK.town("places 1;rate 1 6 20 150;rate 1 8 9 300");
        CHECK.due("P20: before the hours", x.rate(1, 5), 0);
        CHECK.due("P20: first hour", x.rate(1, 6), 150);
        CHECK.due("P20: replaced", x.rate(1, 8), 300);
        CHECK.due("P20: behind the replaced", x.rate(1, 9), 150);
        CHECK.due("P20: last hour", x.rate(1, 19), 150);
        CHECK.due("P20: behind the hours", x.rate(1, 20), 0);
        CHECK.due("P12: previous", x.setRate(1, 6, 999), 150);
        CHECK.due("P12: previous again", x.setRate(1, 6, 0), 999);
        CHECK.due("P12: other zone", x.setRate(3, 23, 5), 0);
        CHECK.due("P20: set", x.rate(3, 23), 5);
        int[][] wrong = {{-1, 0, 0}, {4, 0, 0}, {0, -1, 0}, {0, 24, 0}, {0, 0, -1}, {0, 0, 1000}};
        for (int[] w : wrong) {
            CHECK.due("P12: out of range", x.setRate(w[0], w[1], w[2]), -1);
        }
        CHECK.due("P12: unchanged", x.rate(0, 0), 0);
        CHECK.due("P20: zone -1", x.rate(-1, 0), -1);
        CHECK.due("P20: zone 4", x.rate(4, 0), -1);
        CHECK.due("P20: hour -1", x.rate(0, -1), -1);
        CHECK.due("P20: hour 24", x.rate(0, 24), -1);
        CHECK.due("P12: the log has nothing of it", x.logCount(), 0);
    }

    private static void promise12KeepsWhatWasPaid() {
        ParkingEnforcement x = CHECK.town("places 1;rate 0 0 24 60");
        x.park(0, 0);
        x.pay(0, 50);
        x.setRate(0, 0, 600);
        CHECK.due("P12: paid before", x.paidUntil(0), 50);
    }

    private static void promises17And18() {
        ParkingEnforcement x = CHECK.town("places 6;road 0 1 10;road 1 2 5;road 0 2 20;road 2 0 17;road 3 0 4;road 3 2 11");
        CHECK.due("P16: placeCount", x.placeCount(), 6);
        CHECK.due("P17: same", x.distance(4, 4), 0);
        CHECK.due("P17: over two roads", x.distance(0, 2), 15);
        CHECK.due("P17: back", x.distance(2, 0), 15);
        CHECK.due("P17: over three roads", x.distance(3, 1), 14);
        CHECK.due("P17: no way", x.distance(0, 5), -3);
        CHECK.due("P17: from -1", x.distance(-1, 0), -1);
        CHECK.due("P17: to 6", x.distance(0, 6), -1);
        CHECK.due("P17: both wrong", x.distance(9, 9), -1);
        CHECK.due("P18: the smaller of 1 and 3", x.nextOnWay(0, 2), 1);
        CHECK.due("P18: the smaller of 1 and 3, back", x.nextOnWay(2, 0), 1);
        CHECK.due("P18: neighbour", x.nextOnWay(0, 1), 1);
        CHECK.due("P18: over 0", x.nextOnWay(3, 1), 0);
        CHECK.due("P18: same", x.nextOnWay(2, 2), -1);
        CHECK.due("P18: from 6", x.nextOnWay(6, 2), -1);
        CHECK.due("P18: to -1", x.nextOnWay(2, -1), -1);
        CHECK.due("P18: no way", x.nextOnWay(5, 2), -3);
        ParkingEnforcement y = CHECK.town("places 3;road 0 1 4;road 0 2 2;road 2 1 2;road 1 0 3;road 1 0 9");
        CHECK.due("P17: the shorter of three roads", y.distance(0, 1), 3);
        CHECK.due("P18: the road itself", y.nextOnWay(0, 1), 1);
        ParkingEnforcement z = CHECK.town("places 3;road 0 2 4;road 0 1 2;road 1 2 2");
        CHECK.due("P18: a way as long as the road", z.nextOnWay(0, 2), 1);
        CHECK.due("P18: a way as long as the road, back", z.nextOnWay(2, 0), 0);
    }

    private static void longWays() {
        ParkingEnforcement x = CHECK.town("places 10;road 0 1 99;road 1 2 99;road 2 3 99;road 3 4 99;road 4 5 99;"
                + "road 5 6 99;road 6 7 99;road 7 8 99;road 8 9 99");
        CHECK.due("P17: nine roads", x.distance(0, 9), 891);
        CHECK.due("P17: nine roads back", x.distance(9, 0), 891);
        CHECK.due("P18: nine roads", x.nextOnWay(9, 0), 8);
    }

    private static void promises19And21() {
        ParkingEnforcement x = CHECK.town("places 3;zone 1 3;zone 2 1;zone 2 2;stay 2 10;stay 3 600;stay 3 45");
        CHECK.due("P19: 0", x.zone(0), 0);
        CHECK.due("P19: 1", x.zone(1), 3);
        CHECK.due("P19: replaced", x.zone(2), 2);
        CHECK.due("P19: -1", x.zone(-1), -1);
        CHECK.due("P19: 3", x.zone(3), -1);
        CHECK.due("P21: 0", x.longestStay(0), 120);
        CHECK.due("P21: 2", x.longestStay(2), 10);
        CHECK.due("P21: replaced", x.longestStay(3), 45);
        CHECK.due("P21: -1", x.longestStay(-1), -1);
        CHECK.due("P21: 4", x.longestStay(4), -1);
    }

    public static void main(String[] args) {
        promise1();
        promise2();
        promise3Good();
        promise3Misplaced();
        promise3OutOfRange();
        promise3NotAllowed();
        promise3State();
        promise3AfterAnEarlierText();
        promise3ClearsTheCars();
        promise4();
        promise12And20();
        promise12KeepsWhatWasPaid();
        promises17And18();
        longWays();
        promises19And21();
        CHECK.end();
    }
}
