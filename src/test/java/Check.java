import java.util.List;
import java.util.function.IntUnaryOperator;

/** Counts and prints the answers that are not due. */
final class Check {
    private int wrong;

    /** A new object with the town of a description, which must have no error. */
    ParkingEnforcement town(String text) {
        ParkingEnforcement x = new ParkingEnforcement();
        append(x, text);
        if (x.load() < 1) {
            report("the town " + text + " has an error");
        }
        return x;
    }

    static void append(ParkingEnforcement x, String text) {
        for (int i = 0; i < text.length(); i++) {
            x.appendByte(text.charAt(i));
        }
    }

    void due(String what, long got, long want) {
        if (got != want) {
            report(what + " answered " + got + ", due is " + want);
        }
    }

    void due(String what, boolean got, boolean want) {
        if (got != want) {
            report(what + " answered " + got + ", due is " + want);
        }
    }

    /** The first row that is not due is told. */
    void due(String what, List<String> got, List<String> want) {
        int row = 0;
        while (row < got.size() && row < want.size() && got.get(row).equals(want.get(row))) {
            row++;
        }
        if (row < got.size() || row < want.size()) {
            String first = row < got.size() ? got.get(row) : "nothing";
            report(what + ": " + first + ", due is " + (row < want.size() ? want.get(row) : "nothing"));
        }
    }

    /** The answers at both ends of an argument's range; just outside and far outside of it INVALID is due. */
    void ends(String what, IntUnaryOperator call, int least, int atLeast, int most, int atMost) {
        due(what + " " + least, call.applyAsInt(least), atLeast);
        due(what + " " + most, call.applyAsInt(most), atMost);
        int[] outside = {least - 1, most + 1, Integer.MIN_VALUE, Integer.MAX_VALUE};
        for (int value : outside) {
            due(what + " " + value, call.applyAsInt(value), ParkingEnforcement.INVALID);
        }
    }

    /** As ends, for a call that throws where the argument is out of range. */
    void endsOrFails(String what, Class<? extends RuntimeException> due, IntUnaryOperator call, int least, int atLeast,
            int most, int atMost) {
        due(what + " " + least, call.applyAsInt(least), atLeast);
        due(what + " " + most, call.applyAsInt(most), atMost);
        int[] outside = {least - 1, most + 1, Integer.MIN_VALUE, Integer.MAX_VALUE};
        for (int value : outside) {
            fails(what + " " + value, due, () -> call.applyAsInt(value));
        }
    }

    /** The exception must be of just this class, not of one below it. */
    void fails(String what, Class<? extends RuntimeException> due, Runnable call) {
        Class<?> got = null;
        try {
            call.run();
        } catch (RuntimeException e) {
            got = e.getClass();
        }
        if (got != due) {
            report(what + " threw " + got + ", due is " + due);
        }
    }

    private void report(String line) {
        wrong++;
        System.out.println(line);
    }

    void end() {
        System.out.println(wrong == 0 ? "all answers are as due" : wrong + " answers are not as due");
        if (wrong != 0) {
            System.exit(1);
        }
    }
}
