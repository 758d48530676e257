/** Counts and prints the answers that are not due. */
final class Check {
    private int wrong;

    /** A new object with the town of a description, which must have no error. */
    ParkingEnforcement town(String text) {
        ParkingEnforcement x = new ParkingEnforcement();
        append(x, text);
        if (x.load() < 1) {
            report("the town " + text + " has an error");
        }
        return x;
    }

    static void append(ParkingEnforcement x, String text) {
        for (int i = 0; i < text.length(); i++) {
            x.appendByte(text.charAt(i));
        }
    }

    void due(String what, long got, long want) {
        if (got != want) {
            report(what + " answered " + got + ", due is " + want);
        }
    }

    void due(String what, boolean got, boolean want) {
        if (got != want) {
            report(what + " answered " + got + ", due is " + want);
        }
    }

    /** The exception must be of just this class, not of one below it. */
    void fails(String what, Class<? extends RuntimeException> due, Runnable call) {
        Class<?> got = null;
        try {
            call.run();
        } catch (RuntimeException e) {
            got = e.getClass();
        }
        if (got != due) {
            report(what + " threw " + got + ", due is " + due);
        }
    }

    private void report(String line) {
        wrong++;
        System.out.println(line);
    }

    void end() {
        System.out.println(wrong == 0 ? "all answers are as due" : wrong + " answers are not as due");
        if (wrong != 0) {
            System.exit(1);
        }
    }
}
