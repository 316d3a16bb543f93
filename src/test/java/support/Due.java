package support;

/** Counts the answers that are not as due. */
public final class Due {
    public static final int INVALID = -1000001;
    public static final int NOT_POSSIBLE = -1000002;
    public static final int LIMIT = -1000003;
    public static final int NOT_FOUND = -1000004;

    private int wrong = 0;
    private int answers = 0;
    private String promise = "";

    public void promise(String name) {
        promise = name;
    }

    public void is(String call, long got, long want) {
        answers++;
        if (got != want) {
            wrong++;
            System.out.println(promise + ": " + call + " answered " + got + ", due is " + want);
        }
    }

    public void holds(String what, boolean stands) {
        is(what, stands ? 1 : 0, 1);
    }

    public void same(String what, String got, String want) {
        holds(what, got.equals(want));
        if (!got.equals(want)) {
            System.out.println("seen:\n" + got + "due:\n" + want);
        }
    }

    public boolean allRight() {
        return wrong == 0;
    }

    /** Ends the test with exit code 1 if an answer was not as due. */
    public void end() {
        System.out.println(answers + " answers, " + wrong + " not as due");
        if (wrong != 0 || answers == 0) {
            System.exit(1);
        }
    }

    /** The set of some numbers. */
    public static int set(int... numbers) {
        int set = 0;
        for (int number : numbers) {
            set |= 1 << number;
        }
        return set;
    }
}
