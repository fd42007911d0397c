/** Counts and prints the answers that are not due; shared by the project's own tests. */
final class Check {

    interface Call {
        long answer();
    }

    private static int made = 0;
    private static int wrong = 0;
    private static String place = "";

    private Check() {
    }

    /** What is reported from now on begins with this. */
    static void under(String text) {
        place = text;
    }

    static void same(String what, long got, long due) {
        made++;
        if (got != due) {
            report(what + " answered " + got + ", due is " + due);
        }
    }

    static void sameShare(String what, double got, double due) {
        made++;
        if (Double.doubleToLongBits(got) != Double.doubleToLongBits(due)) {
            report(what + " answered " + got + ", due is " + due);
        }
    }

    static void isTrue(String what, boolean holds) {
        made++;
        if (!holds) {
            report(what + " does not hold");
        }
    }

    /** The call throws exactly that exception, and changes nothing that can be seen. */
    static void refuses(String what, HoseTests x, Class<? extends RuntimeException> due, Call call) {
        made++;
        long before = x.digest();
        String got;
        try {
            got = "the answer " + call.answer();
        } catch (RuntimeException e) {
            got = e.getClass().getName();
        }
        if (!got.equals(due.getName())) {
            report(what + " gave " + got + ", due is " + due.getName());
        }
        if (x.digest() != before) {
            report(what + " threw and changed something");
        }
    }

    static void report(String text) {
        wrong++;
        System.out.println(place + text);
    }

    static void end(String name) {
        System.out.println(name + ": " + made + " checks, " + wrong + " wrong");
        if (wrong != 0) {
            System.exit(1);
        }
    }
}
