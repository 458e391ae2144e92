/** Counts and prints the answers that are not as due. */
final class Expect {
    private static int asked = 0;
    private static int wrong = 0;
    private static int edges = 0;
    private static int sentences = 0;
    private static String named = "";

    private Expect() {
    }

    static void same(String what, long got, long due) {
        asked++;
        if (got != due) {
            tell(what + " answered " + got + ", due is " + due);
        }
    }

    static void same(String what, String got, String due) {
        asked++;
        if (!got.equals(due)) {
            tell(what + " answered " + got + ", due is " + due);
        }
    }

    private static void tell(String fault) {
        wrong++;
        System.out.println(named + fault);
    }

    static void edge(String name, Runnable test) {
        edges++;
        byItself(name, test);
    }

    static void sentence(String words, Runnable test) {
        sentences++;
        byItself(words, test);
    }

    /** A boundary or a sentence of the document: one that fails does not keep the next from its turn. */
    private static void byItself(String name, Runnable test) {
        named = name + ": ";
        int before = asked;
        try {
            test.run();
        } catch (RuntimeException thrown) {
            tell("threw " + thrown);
        }
        if (asked == before) {
            tell("nothing was asked");
        }
        named = "";
    }

    static void yes(String what, boolean got) {
        same(what, got ? 1 : 0, 1);
    }

    static void no(String what, boolean got) {
        same(what, got ? 1 : 0, 0);
    }

    static void end() {
        if (asked == 0) {
            System.out.println("nothing was asked");
        }
        if (wrong != 0 || asked == 0) {
            System.exit(1);
        }
        if (edges > 0) {
            System.out.println(edges + " boundaries hold, each by itself");
        }
        if (sentences > 0) {
            System.out.println(sentences + " sentences hold, each by itself");
        }
    }
}
