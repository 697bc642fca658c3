/** What the tests share: it counts answers that are not as due, and ends a test with exit code 1 if there are any. */
final class Check {
    interface Call {
        long answer();
    }

    private static int asked = 0;
    private static int wrong = 0;
    /** What stands ahead of the answers that are told. */
    private static String heading = "";

    private Check() {
    }

    static void under(String words) {
        heading = words;
    }

    static void due(String what, long got, long want) {
        asked++;
        if (got != want) {
            report(what, Long.toString(got), Long.toString(want));
        }
    }

    static void due(String what, String got, String want) {
        asked++;
        if (!got.equals(want)) {
            report(what, got, want);
        }
    }

    /** The call must throw just this exception, and change nothing that the object tells. */
    static void refuses(LadderRelays object, String what, Class<?> exception, Call call) {
        long before = object.digest();
        due(what, outcome(call), "throws." + exception.getSimpleName());
        due(what + " changes nothing", object.digest(), before);
    }

    static String outcome(Call call) {
        try {
            return Long.toString(call.answer());
        } catch (RuntimeException e) {
            return "throws." + e.getClass().getSimpleName();
        }
    }

    private static void report(String what, String got, String want) {
        wrong++;
        if (wrong <= 40) {
            System.out.println(heading + what + " answered " + got + ", due is " + want);
        }
    }

    static void end() {
        System.out.println(asked + " answers looked at, " + wrong + " not as due");
        if (wrong != 0 || asked == 0) {
            System.exit(1);
        }
    }

    static void type(LadderRelays object, String text) {
        object.clearBuffer();
        for (int i = 0; i < text.length(); i++) {
            object.append(text.charAt(i));
        }
    }
}
