/** Counts the answers that are not the due ones and prints them; closes a test's main method. */
final class Checks {
    private int checked = 0;
    private int wrong = 0;
    private String title = "";

    void about(String newTitle) {
        title = newTitle;
    }

    void due(String call, long got, long want) {
        checked++;
        if (got != want) {
            wrong++;
            if (wrong <= 50) {
                System.out.println(title + ": " + call + " answered " + got + ", due is " + want);
            }
        }
    }

    void holds(String claim, boolean isTrue) {
        due(claim, isTrue ? 1 : 0, 1);
    }

    void close() {
        System.out.println(checked + " checked, " + wrong + " not as due");
        if (wrong != 0 || checked == 0) {
            System.exit(1);
        }
    }
}
