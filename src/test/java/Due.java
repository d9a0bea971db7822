/** Compares answers with those that are due, and ends a test. */
final class Due {
    private static int asked = 0;
    private static int wrong = 0;
    private static String about = "";

    private Due() {
    }

    /** What is printed ahead of answers that are wrong from now on. */
    static void about(String sentence) {
        about = sentence.isEmpty() ? "" : "[" + sentence + "] ";
    }

    static int asked() {
        return asked;
    }

    static void is(String call, long got, long want) {
        compare(call, got == want, got, want);
    }

    static void is(String call, String got, String want) {
        compare(call, got.equals(want), got, want);
    }

    private static void compare(String call, boolean alike, Object got, Object want) {
        asked++;
        if (!alike) {
            wrong++;
            if (wrong <= 50) {
                System.out.println(about + call + " answered " + got + ", due is " + want);
            }
        }
    }

    static void holds(String what, boolean holds) {
        is(what, holds ? 1 : 0, 1);
    }

    static boolean anyWrong() {
        return wrong > 0;
    }

    static void end(String test) {
        System.out.println(test + ": " + asked + " answers looked at, " + wrong + " wrong");
        if (wrong > 0) {
            System.exit(1);
        }
    }
}
