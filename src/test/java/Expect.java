/** Counts and prints the answers that are not as due. */
final class Expect {
    private static int asked = 0;
    private static int wrong = 0;

    private Expect() {
    }

    static void same(String what, long got, long due) {
        asked++;
        if (got != due) {
            wrong++;
            System.out.println(what + " answered " + got + ", due is " + due);
        }
    }

    static void same(String what, String got, String due) {
        asked++;
        if (!got.equals(due)) {
            wrong++;
            System.out.println(what + " answered " + got + ", due is " + due);
        }
    }

    static void yes(String what, boolean got) {
        same(what, got ? 1 : 0, 1);
    }

    static void no(String what, boolean got) {
        same(what, got ? 1 : 0, 0);
    }

    static void end() {
        if (asked == 0) {
            System.out.println("nothing was asked");
        }
        if (wrong != 0 || asked == 0) {
            System.exit(1);
        }
    }
}
