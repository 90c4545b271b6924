/** Compares answers with those that are due, and prints each one that is not. */
final class Check {
    interface Call {
        void run();
    }

    private static int wrong = 0;
    private static int asked = 0;

    private Check() {
    }

    static void same(String what, long got, long due) {
        asked++;
        if (got != due) {
            wrong++;
            System.out.println(what + ": " + got + ", due is " + due);
        }
    }

    static void same(String what, boolean got, boolean due) {
        same(what, got ? 1 : 0, due ? 1 : 0);
    }

    static void same(String what, String got, String due) {
        asked++;
        if (!got.equals(due)) {
            wrong++;
            System.out.println(what + ": " + got + ", due is " + due);
        }
    }

    static void sameDouble(String what, double got, double due) {
        asked++;
        if (Double.doubleToLongBits(got) != Double.doubleToLongBits(due)) {
            wrong++;
            System.out.println(what + ": " + got + ", due is " + due);
        }
    }

    /** The call throws exactly this exception, and the roof is the same after it. */
    static void refuses(String what, SlateRoof roof, Class<? extends RuntimeException> kind, Call call) {
        long before = roof.digest();
        String got = "no exception";
        try {
            call.run();
        } catch (RuntimeException e) {
            got = e.getClass().getName();
        }
        same(what, got, kind.getName());
        same(what + " changes nothing", roof.digest(), before);
    }

    static void badArgument(String what, SlateRoof roof, Call call) {
        refuses(what, roof, IllegalArgumentException.class, call);
    }

    static void badState(String what, SlateRoof roof, Call call) {
        refuses(what, roof, IllegalStateException.class, call);
    }

    static void badIndex(String what, SlateRoof roof, Call call) {
        refuses(what, roof, IndexOutOfBoundsException.class, call);
    }

    static int wrongOnes() {
        return wrong;
    }

    static void end(String test) {
        System.out.println(test + ": " + asked + " answers, " + wrong + " wrong");
        if (wrong != 0) {
            System.exit(1);
        }
    }
}
