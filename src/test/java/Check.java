/** What the tests share: each deviation is printed, and finish() ends with exit code 1 if there was one. */
final class Check {
    static final Class<IllegalArgumentException> UNKNOWN = IllegalArgumentException.class;
    static final Class<IndexOutOfBoundsException> RANGE = IndexOutOfBoundsException.class;
    static final Class<IllegalStateException> STATE = IllegalStateException.class;
    static final Class<UnsupportedOperationException> NO_ROOM = UnsupportedOperationException.class;
    static final Class<ArithmeticException> ARITHMETIC = ArithmeticException.class;

    static final int[] OUTSIDE_ALL = {Integer.MIN_VALUE, -1_000_000_001, -1, 1_000_000_001, Integer.MAX_VALUE};

    interface Question {
        long ask();
    }

    interface Deed {
        void act();
    }

    private static int wrong = 0;
    private static int looked = 0;

    private Check() {
    }

    static void same(String what, Object got, Object want) {
        looked++;
        if (!want.equals(got)) {
            wrong++;
            System.out.println(what + ": got " + got + ", due is " + want);
        }
    }

    static void answers(String what, long want, Question question) {
        Object got;
        try {
            got = question.ask();
        } catch (RuntimeException e) {
            got = e.toString();
        }
        same(what, got, want);
    }

    static void does(String what, Deed deed) {
        same(what, outcome(deed), "done");
    }

    /** The very class is due: an ArrayIndexOutOfBoundsException is no IndexOutOfBoundsException here. */
    static void refuses(String what, Class<? extends RuntimeException> want, Deed deed) {
        same(what, outcome(deed), want.getSimpleName());
    }

    private static String outcome(Deed deed) {
        try {
            deed.act();
            return "done";
        } catch (RuntimeException e) {
            return isOfMachine(e) ? "the machine's " + e : e.getClass().getSimpleName();
        }
    }

    static boolean isOfMachine(RuntimeException e) {
        String name = e.getClass().getSimpleName();
        return name.startsWith("Array") || name.startsWith("NullPointer") || name.startsWith("ClassCast")
                || name.startsWith("NegativeArraySize") || "/ by zero".equals(e.getMessage());
    }

    static void finish(String test) {
        System.out.println(test + ": " + looked + " looked at, " + wrong + " wrong");
        if (wrong != 0) {
            System.exit(1);
        }
    }

    static void write(CostBooks books, String text) {
        for (int i = 0; i < text.length(); i++) {
            books.sign(text.charAt(i), 1);
        }
    }

    static CostBooks withTariff(String text) {
        CostBooks books = new CostBooks();
        write(books, text);
        books.tariff();
        return books;
    }
}
