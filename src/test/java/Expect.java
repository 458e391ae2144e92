/** Counts and prints the answers that are not as due. */
final class Expect {
    private static int asked = 0;
    private static int wrong = 0;
    private static int edges = 0;
    private static String edge = "";

    private Expect() {
    }

    static void same(String what, long got, long due) {
        asked++;
        if (got != due) {
            tell(what + " answered " + got + ", due is " + due);
        }
    }

    static void same(String what, String got, String due) {
        asked++;
        if (!got.equals(due)) {
            tell(what + " answered " + got + ", due is " + due);
        }
    }

    private static void tell(String fault) {
        wrong++;
        System.out.println(edge + fault);
    }

    /** A boundary of the document, tested by itself: one that fails does not keep the next from its turn. */
    static void edge(String name, Runnable test) {
        edges++;
        edge = name + ": ";
        int before = asked;
        try {
            test.run();
        } catch (RuntimeException thrown) {
            tell("threw " + thrown);
        }
        if (asked == before) {
            tell("nothing was asked");
        }
        edge = "";
    }

    static void yes(String what, boolean got) {
        same(what, got ? 1 : 0, 1);
    }

    static void no(String what, boolean got) {
        same(what, got ? 1 : 0, 0);
    }

    static void end() {
        if (asked == 0) {
            System.out.println("nothing was asked");
        }
        if (wrong != 0 || asked == 0) {
            System.exit(1);
        }
        if (edges > 0) {
            System.out.println(edges + " boundaries hold, each by itself");
        }
    }
}
