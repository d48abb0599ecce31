/** Counts and prints the answers that are not the due ones; a test ends by done(). */
public final class Check {
    private final String test;
    private int made = 0;
    private int wrong = 0;

    public Check(String test) {
        this.test = test;
    }

    public void same(String what, Object got, Object due) {
        made++;
        if (!due.equals(got)) {
            wrong++;
            System.out.println(what + " answered " + got + ", due is " + due);
        }
    }

    public boolean hasFailed() {
        return wrong > 0;
    }

    public void done() {
        System.out.println(test + ": " + made + " checks, " + wrong + " wrong");
        if (wrong > 0 || made == 0) {
            System.exit(1);
        }
    }
}
