import java.lang.reflect.InvocationTargetException;
import java.lang.reflect.Method;
import java.util.ArrayList;
import java.util.HashMap;
import java.util.List;
import java.util.Map;
import java.util.Random;

/** Runs of calls drawn from fixed seeds; ParkingEnforcement and PlainTown must answer alike. */
public final class RandomRunsTest {
    private static final int CALLS = 512;
    private static final Map<String, Method> MINE = methods(ParkingEnforcement.class);
    private static final Map<String, Method> PLAIN = methods(PlainTown.class);
    private static final String[] QUERIES = {
        "now", "placeCount", "distance", "nextOnWay", "zone", "rate", "longestStay", "freeSpaces", "carsAt",
        "poundFree", "truck", "state", "placeOf", "paidUntil", "overtime", "ticketCount", "ticketAmount",
        "ticketMinute", "isTicketPaid", "due", "credit", "fees", "clampedSince", "towable", "logCount",
        "logMinute", "logKind", "logCar", "logAmount", "daySum", "owedInAll", "price", "cheapestStart",
        "minutesFor", "ticketNow", "ticketsAfter", "bestInspection", "revenue", "paidSoon", "busiestPlace",
        "tourLength", "tourMinutes", "tourCar", "tourPound", "patrolValue", "patrolSet", "patrolMinutes", "loadError"
    };
    private static final int[] WAITS = {
        0, 1, 5, 10, 29, 30, 31, 59, 60, 61, 90, 119, 120, 121, 122, 150, 179, 180, 181, 240, 300, 600, 1440
    };

    private final Random random;
    private final ParkingEnforcement mine = new ParkingEnforcement();
    private final PlainTown plain = new PlainTown();
    private final List<String> calls = new ArrayList<>();
    private final Map<String, Integer> seen;
    private boolean differs;

    private RandomRunsTest(long seed, Map<String, Integer> seen) {
        random = new Random(seed);
        this.seen = seen;
    }

    private static Map<String, Method> methods(Class<?> type) {
        Map<String, Method> found = new HashMap<>();
        for (Method method : type.getDeclaredMethods()) {
            if (java.lang.reflect.Modifier.isPublic(method.getModifiers())) {
                found.put(method.getName(), method);
            }
        }
        return found;
    }

    private static String answer(Object object, Method method, Object[] args) {
        try {
            return String.valueOf(method.invoke(object, args));
        } catch (InvocationTargetException e) {
            return "throws." + e.getCause().getClass().getSimpleName();
        } catch (IllegalAccessException e) {
            return "not callable";
        }
    }

    private boolean goesOn() {
        return !differs && calls.size() < CALLS;
    }

    private int call(String name, Integer... args) {
        if (!goesOn()) {
            return 0;
        }
        String got = answer(mine, MINE.get(name), args);
        String due = answer(plain, PLAIN.get(name), args);
        calls.add(name + java.util.Arrays.toString(args) + " -> " + got);
        if (!got.equals(due)) {
            differs = true;
            calls.add("due is " + due);
        }
        seen.merge(kindOfAnswer(name, due), 1, Integer::sum);
        return due.matches("-?[0-9]+") ? Integer.parseInt(due) : 0;
    }

    private static String kindOfAnswer(String name, String due) {
        return name + (due.matches("-[1-4]") || due.startsWith("throws") ? " " + due : due.startsWith("-") ? " error" : "");
    }

    private int below(int bound) {
        return random.nextInt(bound);
    }

    private boolean chance(int percent) {
        return below(100) < percent;
    }

    private int pick(int... values) {
        return values[below(values.length)];
    }

    private int car() {
        return chance(3) ? pick(-1, 16, 100, Integer.MIN_VALUE) : below(16);
    }

    private int place() {
        int count = plain.placeCount();
        return chance(3) ? pick(-1, count, 10, Integer.MAX_VALUE) : below(count);
    }

    private int range(int least, int most) {
        if (chance(4)) {
            return pick(least - 1, most + 1, Integer.MIN_VALUE, Integer.MAX_VALUE);
        }
        return chance(10) ? pick(least, most) : least + below(most - least + 1);
    }

    /** A car in one of the states, if there is one. */
    private int carIn(int state) {
        int first = below(16);
        for (int i = 0; i < 16; i++) {
            if (plain.state((first + i) % 16) == state) {
                return (first + i) % 16;
            }
        }
        return car();
    }

    private void load(String text) {
        for (int i = 0; i < text.length(); i++) {
            call("appendByte", (int) text.charAt(i));
        }
        call("load");
        call("loadError");
    }

    private String space() {
        return chance(90) ? "" : " ".repeat(1 + below(2));
    }

    private String town(int most) {
        int places = 1 + below(10);
        StringBuilder text = new StringBuilder(space() + "places " + places + space());
        boolean rated = false;
        while (text.length() < most) {
            int p = below(places);
            String more;
            switch (below(8)) {
                case 0:
                    more = "zone " + p + " " + below(4);
                    break;
                case 1:
                    more = "stay " + below(4) + " " + (10 + below(591));
                    break;
                case 2:
                    more = "spaces " + p + " " + below(9);
                    break;
                case 3:
                    more = "pound " + (chance(70) ? p % 2 : p) + " " + (1 + below(6));
                    break;
                case 4:
                    int from = below(24);
                    more = "rate " + below(4) + " " + from + " " + (from + 1 + below(24 - from)) + " " + below(1000);
                    rated = true;
                    break;
                default:
                    more = places == 1 ? "stay 0 60" : "road " + p + " " + (p + 1 + below(places - 1)) % places + " " + (1 + below(chance(50) ? 5 : 99));
                    break;
            }
            text.append(';').append(space()).append(more).append(space());
        }
        if (!rated) {
            text.append(";rate 0 0 24 60");
        }
        return text.toString();
    }

    private String mangled(String text) {
        String odd = " ;0123456789abcdeoprstuyz09;; \t\u00e9A";
        int at = below(text.length());
        switch (below(4)) {
            case 0:
                return text.substring(0, at);
            case 1:
                return text.substring(0, at) + odd.charAt(below(odd.length())) + text.substring(at);
            case 2:
                return text.substring(0, at) + text.substring(at + 1);
            default:
                return text.substring(0, at) + odd.charAt(below(odd.length())) + text.substring(at + 1);
        }
    }

    /** A town in which many cars can stand and be towed. */
    private String crowdedTown() {
        int places = 2 + below(4);
        StringBuilder text = new StringBuilder("places " + places);
        for (int p = 0; p < places; p++) {
            if (p > 0 && chance(93)) {
                text.append(";road ").append(below(p)).append(' ').append(p).append(' ').append(1 + below(chance(70) ? 4 : 60));
            }
            if (chance(80)) {
                text.append(";spaces ").append(p).append(' ').append(2 + below(7));
            }
        }
        int first = below(places);
        text.append(";pound ").append(first).append(' ').append(1 + below(6));
        if (chance(75)) {
            text.append(";pound ").append((first + 1 + below(places - 1)) % places).append(' ').append(1 + below(5));
        }
        text.append(";rate 0 0 24 ").append(1 + below(300));
        return text.toString();
    }

    private void sweep(int wait) {
        call("advance", wait);
        for (int p = 0; p < plain.placeCount(); p++) {
            if (chance(90)) {
                call("inspect", p);
            }
            if (chance(20)) {
                call("advance", below(3));
            }
        }
    }

    private void act() {
        switch (below(13)) {
            case 0:
            case 1:
                call("park", chance(90) ? carIn(0) : car(), place());
                break;
            case 2:
                call("pay", chance(90) ? carIn(1) : car(), chance(50) ? 1 + below(300) : range(1, 9999));
                break;
            case 3:
                call("leave", chance(90) ? carIn(1) : car());
                break;
            case 4:
                call("inspect", place());
                break;
            case 5:
            case 6:
                fines();
                break;
            case 7:
                call("towNext");
                break;
            case 8:
                call("advance", chance(97) ? WAITS[below(WAITS.length)] : range(0, 1440));
                break;
            case 9:
                call("setRate", range(0, 3), range(0, 23), chance(30) ? 0 : range(0, 999));
                break;
            case 10:
                call(chance(50) ? "saveSnapshot" : "restoreSnapshot", chance(90) ? below(2) : pick(-1, 2));
                break;
            default:
                sweep(pick(119, 120, 121, 125, 150));
                break;
        }
    }

    private void fines() {
        int car = chance(40) ? carIn(2) : chance(50) ? carIn(3) : car();
        int due = Math.max(1, plain.due(car));
        call("payFines", car, chance(70) ? Math.max(1, due + pick(-1, 0, 0, 0, 1, 500)) : chance(60) ? pick(1499, 1500, 3000, 6000, 8000) : range(1, 99999));
    }

    private void ask(String name) {
        switch (name) {
            case "distance":
            case "nextOnWay":
                call(name, place(), place());
                break;
            case "zone":
            case "freeSpaces":
            case "carsAt":
            case "poundFree":
                call(name, place());
                break;
            case "rate":
                call(name, range(0, 3), range(0, 23));
                break;
            case "longestStay":
                call(name, range(0, 3));
                break;
            case "ticketAmount":
            case "ticketMinute":
            case "isTicketPaid":
                call(name, car(), below(6) - 1);
                break;
            case "logMinute":
            case "logKind":
            case "logCar":
            case "logAmount":
                call(name, chance(80) ? below(1 + plain.logCount()) : range(-1, 400));
                break;
            case "daySum":
                call(name, chance(60) ? plain.now() / 1440 : range(0, 6), range(1, 10));
                break;
            case "price":
                call(name, place(), range(0, 10079), range(0, 1440));
                break;
            case "cheapestStart":
                call(name, place(), range(1, 600));
                break;
            case "minutesFor":
                call(name, place(), chance(60) ? below(400) : range(0, 9999));
                break;
            case "ticketsAfter":
            case "paidSoon":
            case "patrolValue":
            case "patrolSet":
            case "patrolMinutes":
                call(name, place(), chance(40) ? below(80) : range(0, 600));
                break;
            case "bestInspection":
                call(name, place(), range(0, 120));
                break;
            case "revenue":
                call(name, range(0, 3), chance(60) ? plain.now() / 1440 : range(0, 6));
                break;
            case "busiestPlace":
                call(name, chance(60) ? plain.now() / 1440 : range(0, 6));
                break;
            case "tourCar":
            case "tourPound":
                call(name, range(0, 5));
                break;
            default:
                call(name, MINE.get(name).getParameterCount() == 0 ? new Integer[0] : new Integer[] {car()});
                break;
        }
    }

    private void loadAnother() {
        call("saveSnapshot", below(2));
        load("places " + (1 + below(3)) + ";rate 0 0 24 60;pound 0 2");
        for (int i = 0; i < 20; i++) {
            act();
        }
        call("restoreSnapshot", below(2));
    }

    private void playOn(int asked) {
        while (goesOn()) {
            if (chance(1)) {
                loadAnother();
            } else if (chance(asked)) {
                ask(QUERIES[below(QUERIES.length)]);
            } else {
                act();
            }
        }
    }

    private void runOfReading() {
        while (goesOn()) {
            String text = town(20 + below(80));
            load(chance(70) ? mangled(text) : text);
            for (int i = 0; i < 8; i++) {
                ask(QUERIES[below(11)]);
            }
        }
    }

    private void runOfTowing() {
        load(crowdedTown());
        int cars = 3 + below(13);
        for (int i = 0; i < cars; i++) {
            call("park", carIn(0), place());
            if (chance(10)) {
                call("advance", below(30));
            }
        }
        call("advance", 30);
        for (int i = 0; i < 3; i++) {
            sweep(120 + below(3));
        }
        call("advance", pick(170, 179, 180, 181, 200));
        for (int i = 0; i < 10; i++) {
            askTour();
            if (chance(80)) {
                call("towNext");
            } else {
                act();
            }
        }
        playOn(60);
    }

    private void askTour() {
        call("towable");
        call("tourLength");
        call("tourMinutes");
        for (int i = -1; i <= plain.tourLength(); i++) {
            call("tourCar", i);
            call("tourPound", i);
        }
    }

    private void runOfFullLog() {
        load("places 2;road 0 1 3;rate 0 0 24 90;spaces 0 8;spaces 1 8;pound 1 2");
        while (goesOn() && plain.logCount() < 325) {
            call("park", carIn(0), below(2));
            call("leave", below(16));
            call("pay", carIn(1), 50);
            if (chance(4)) {
                sweep(125);
            }
        }
        playOn(30);
    }

    private void runToTheEnd() {
        load(town(60));
        while (goesOn() && plain.now() < 9600) {
            call("advance", pick(1440, 1000, 700));
            act();
            ask(QUERIES[below(QUERIES.length)]);
        }
        playOn(50);
    }

    private String wideTown() {
        int places = 7 + below(4);
        StringBuilder text = new StringBuilder("places " + places + ";rate 0 0 24 60");
        for (int p = 1; p < places; p++) {
            text.append(";road ").append(below(p)).append(' ').append(p).append(' ').append(1 + below(20));
        }
        return text.toString();
    }

    private void runOfPatrols() {
        load(chance(70) ? crowdedTown() : wideTown());
        for (int i = 0; i < 12; i++) {
            call("park", carIn(0), place());
            call("advance", pick(1, 20, 40, 100));
        }
        while (goesOn()) {
            int start = place();
            int minutes = chance(70) ? below(60) : range(0, 600);
            call("patrolValue", start, minutes);
            call("patrolSet", start, minutes);
            call("patrolMinutes", start, minutes);
            if (chance(30)) {
                act();
            }
        }
    }

    private boolean run(int style) {
        switch (style) {
            case 0:
                runOfReading();
                break;
            case 1:
            case 2:
                runOfTowing();
                break;
            case 3:
                runOfFullLog();
                break;
            case 4:
                runToTheEnd();
                break;
            case 5:
                runOfPatrols();
                break;
            default:
                load(town(60 + below(100)));
                playOn(50);
                break;
        }
        return !differs;
    }

    public static void main(String[] args) {
        int runs = args.length > 0 ? Integer.parseInt(args[0]) : 700;
        int first = args.length > 1 ? Integer.parseInt(args[1]) : 0;
        int wrong = 0;
        Map<String, Integer> seen = new java.util.TreeMap<>();
        for (int seed = first; seed < first + runs && wrong < 3; seed++) {
            RandomRunsTest test = new RandomRunsTest(seed, seen);
            if (!test.run(seed % 7)) {
                wrong++;
                System.out.println("run of seed " + seed + ":");
                test.calls.forEach(call -> System.out.println("  " + call));
            }
        }
        if (args.length > 2) {
            System.out.println(seen);
        }
        System.out.println(wrong == 0 ? "all runs answer as PlainTown does" : "there are runs that answer otherwise");
        if (wrong != 0) {
            System.exit(1);
        }
    }
}
