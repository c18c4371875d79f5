/** Counts the answers that are not the due ones and tells them; a test ends with done(). */
final class Check {
    private final String test;
    private int looked;
    private int wrong;
    private String sentence = "";

    Check(String test) {
        this.test = test;
    }

    /** The words of the document that the checks from here on look at. */
    void sentence(String words) {
        sentence = words + " | ";
    }

    void same(String what, long got, long due) {
        looked++;
        if (got != due) {
            wrong++;
            System.out.println(test + ": " + sentence + what + " answered " + got + ", due is " + due);
        }
    }

    void same(String what, String got, String due) {
        looked++;
        if (!due.equals(got)) {
            wrong++;
            System.out.println(test + ": " + sentence + what + " answered " + got + ", due is " + due);
        }
    }

    void yes(String what, boolean got) {
        same(what, got ? 1 : 0, 1);
    }

    void no(String what, boolean got) {
        same(what, got ? 1 : 0, 0);
    }

    /** Runs the query and looks at all rows of its answer, told as Make.answers does. */
    void answers(String what, QueryRunner q, int items, String due) {
        int rows = q.run();
        same(what, Make.answers(q, rows, items), due);
    }

    boolean isClean() {
        return wrong == 0;
    }

    void done() {
        System.out.println(test + ": " + looked + " answers looked at, " + wrong + " wrong");
        if (wrong != 0 || looked == 0) {
            System.exit(1);
        }
    }
}
