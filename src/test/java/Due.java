/** What the tests share: each compares an answer with the one that is due and counts what is otherwise. */
final class Due {
    private int looked;
    private int wrong;

    void is(String call, long got, long due) {
        looked++;
        if (got != due) {
            wrong++;
            System.out.println(call + " answered " + got + ", due is " + due);
        }
    }

    void holds(String what, boolean is) {
        looked++;
        if (!is) {
            wrong++;
            System.out.println("not so: " + what);
        }
    }

    int wrong() {
        return wrong;
    }

    void end(String name) {
        System.out.println(name + ": " + looked + " looked at, " + wrong + " wrong");
        if (wrong != 0 || looked == 0) {
            System.exit(1);
        }
    }

    /** Feeds a whole text, sign by sign. */
    static void feed(SungHarvest x, String text) {
        for (int i = 0; i < text.length(); i++) {
            x.feed(text.charAt(i));
        }
    }

    /** Feeds a whole text and makes a village of it. */
    static int village(SungHarvest x, String text) {
        feed(x, text);
        return x.village();
    }
}
