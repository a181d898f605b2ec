/** What the tests share: they tell every answer that is not the one that is due. */
final class Check {
    interface Call {
        Object run();
    }

    static final Class<? extends RuntimeException> ARGUMENT = IllegalArgumentException.class;
    static final Class<? extends RuntimeException> STATE = IllegalStateException.class;
    static final Class<? extends RuntimeException> INDEX = IndexOutOfBoundsException.class;

    private static int wrong;
    private static int done;

    private Check() {
    }

    static void due(String what, long got, long due) {
        done++;
        if (got != due) {
            wrong++;
            System.out.println(what + " is " + got + ", due is " + due);
        }
    }

    static void dueDouble(String what, double got, double due) {
        done++;
        if (Double.compare(got, due) != 0) {
            wrong++;
            System.out.println(what + " is " + got + ", due is " + due);
        }
    }

    static void dueText(String what, String got, String due) {
        done++;
        if (!got.equals(due)) {
            wrong++;
            System.out.println(what + " is " + got + ", due is " + due);
        }
    }

    /** The call throws just this exception, and changes nothing. */
    static void refused(CaskYard yard, String what, Class<? extends RuntimeException> due, Call call) {
        long before = yard.digest();
        dueText(what, answer(call), "throws." + due.getSimpleName());
        due("the digest after " + what, yard.digest(), before);
    }

    static String answer(Call call) {
        try {
            return String.valueOf(call.run());
        } catch (RuntimeException e) {
            Class<?> thrown = e.getClass();
            dueText("thrown by the machine", thrown == ARGUMENT || thrown == STATE || thrown == INDEX ? ""
                    : thrown.getSimpleName(), "");
            return "throws." + thrown.getSimpleName();
        }
    }

    static void end() {
        System.out.println(done + " checks, " + wrong + " wrong");
        if (wrong != 0) {
            System.exit(1);
        }
    }
}
