/** Compares answers with those that are due, and tells how many were not. */
final class Due {
    private final String test;
    private int asked;
    private int wrong;
    private String promise = "";

    Due(String test) {
        this.test = test;
    }

    void promise(String name) {
        promise = name;
    }

    void answer(String call, long got, long want) {
        asked++;
        if (got != want) {
            wrong++;
            System.out.println(promise + ": " + call + " answered " + got + ", due is " + want);
        }
    }

    void holds(String what, boolean so) {
        answer(what, so ? 1 : 0, 1);
    }

    void texts(String what, String got, String want) {
        asked++;
        if (!got.equals(want)) {
            wrong++;
            System.out.println(promise + ": " + what + " it is\n  " + got + "\nand due is\n  " + want);
        }
    }

    boolean allRight() {
        return wrong == 0;
    }

    /** Ends the program with 1 if an answer was not as due. */
    void end() {
        System.out.println(test + ": " + asked + " answers, " + wrong + " not as due");
        if (wrong != 0) {
            System.exit(1);
        }
    }
}
