/** Compares answers with those that are due, and ends a test. */
final class Due {
    private final String test;
    private int checked;
    private int wrong;

    Due(String test) {
        this.test = test;
    }

    void is(String call, long got, long want) {
        checked++;
        if (got != want) {
            wrong++;
            if (wrong <= 20) {
                System.out.println(test + ": " + call + " answered " + got + ", due is " + want);
            }
        }
    }

    void holds(String what, boolean is) {
        is(what, is ? 1 : 0, 1);
    }

    void end() {
        System.out.println(test + ": " + checked + " answers, " + wrong + " wrong");
        if (wrong > 0 || checked == 0) {
            System.exit(1);
        }
    }

    /** Puts a text's letters into a new row of bytes. */
    static void write(TaxOnLooks x, int s, String text) {
        x.row(s, 0, text.length());
        for (int i = 0; i < text.length(); i++) {
            x.set(s, i, text.charAt(i));
        }
    }

    /** Puts numbers into a new row of ints. */
    static void tell(TaxOnLooks x, int s, int... told) {
        x.row(s, 2, told.length);
        for (int i = 0; i < told.length; i++) {
            x.set(s, i, told[i]);
        }
    }

    /** Tells a town by a text that must stand, by way of a shelf. */
    static void settle(TaxOnLooks x, int s, String text) {
        write(x, s, text);
        if (x.town(s) < 0) {
            throw new IllegalArgumentException("fault " + x.fault() + " in " + text);
        }
    }

    /** A town told by a text, by way of the last shelf. */
    static TaxOnLooks townOf(String text) {
        TaxOnLooks x = new TaxOnLooks();
        settle(x, 7, text);
        return x;
    }
}
