/** Promises 1 to 8: a new object and the shelves. */
final class ShelfTest {
    private static final Due due = new Due("ShelfTest");

    public static void main(String[] args) {
        newObject();
        rows();
        elements();
        copies();
        people();
        sayings();
        due.end();
    }

    private static void newObject() {
        TaxOnLooks x = new TaxOnLooks();
        int[] start = {0, 0, 0, 1, 5, 0, 0, 0, 0, 1, 0, 0, 0, 0, 0, 0, 0, 0};
        for (int what = 0; what < start.length; what++) {
            due.is("status " + what, x.status(what), start[what]);
        }
        for (int square = 0; square < 36; square++) {
            due.is("wall", x.squareOf(square, 0), 0);
            due.is("balcony", x.squareOf(square, 1), 0);
            due.is("people", x.squareOf(square, 2), 0);
        }
        for (int s = 0; s < 8; s++) {
            due.is("holds", x.holds(s), -1);
        }
        due.is("fault", x.fault(), -1);
        due.is("trace", x.trace(0), -1);
        due.is("nobody", x.personOf(0, 0), -5);
    }

    private static void rows() {
        TaxOnLooks x = new TaxOnLooks();
        for (int sort = 0; sort < 4; sort++) {
            due.is("row", x.row(sort, sort, 160), 1);
            due.is("holds", x.holds(sort), 100 + sort);
            due.is("last", x.set(sort, 159, 7), 1);
            due.is("behind", x.set(sort, 160, 7), -5);
        }
        due.is("empty row", x.row(7, 0, 0), 1);
        due.is("empty row holds", x.holds(7), 100);
        due.is("no element in it", x.set(7, 0, 1), -5);
        due.is("a new row is of zeros", x.row(0, 0, 160), 1);
        due.is("zero", x.element(0, 159), 0);
        due.is("shelf -1", x.row(-1, 9, -1), -1);
        due.is("shelf 8", x.row(8, 0, 1), -1);
        due.is("size before sort", x.row(0, 4, -1), -4);
        due.is("sort before room", x.row(0, 4, 161), -6);
        due.is("sort -1", x.row(0, -1, 1), -6);
        due.is("room", x.row(0, 0, 161), -7);
        due.is("room", x.row(0, 0, Integer.MAX_VALUE), -7);
        due.is("below", x.row(0, 0, Integer.MIN_VALUE), -4);
        due.is("still the old row", x.set(0, 159, 1), 1);
    }

    private static void elements() {
        TaxOnLooks x = new TaxOnLooks();
        long v = 0x1234567890ABCDEFL;
        long[] kept = {(byte) v, (short) v, (int) v, v};
        for (int sort = 0; sort < 4; sort++) {
            x.row(0, sort, 2);
            due.is("set", x.set(0, 1, v), 1);
            due.is("kept", x.element(0, 1), kept[sort]);
            due.is("other", x.element(0, 0), 0);
            x.set(0, 0, 200);
            due.is("200", x.element(0, 0), sort == 0 ? -56 : 200);
            x.set(0, 0, Long.MIN_VALUE);
            due.is("least", x.element(0, 0), sort == 3 ? Long.MIN_VALUE : 0);
        }
        due.is("before", x.element(0, -1), 0);
        due.is("behind", x.element(0, 2), 0);
        due.is("nothing", x.element(1, 0), 0);
        due.is("no shelf", x.element(-1, 0), 0);
        due.is("no shelf", x.element(8, 0), 0);
        for (int which = 11; which <= 17; which++) {
            due.is("nothing refused", x.status(which), 0);
        }
        x.person(0, 0, 0, 0, 0, 0);
        x.show(2, 0);
        due.is("person", x.element(2, 0), 0);
        due.is("set no shelf", x.set(8, 5, 1), -1);
        due.is("set no shelf", x.set(-1, 5, 1), -1);
        due.is("set person", x.set(2, 5, 1), -2);
        due.is("set nothing", x.set(1, 5, 1), -3);
        due.is("set before", x.set(0, -1, 1), -5);
        due.is("set behind", x.set(0, 2, 1), -5);
    }

    private static void copies() {
        TaxOnLooks x = new TaxOnLooks();
        Due.tell(x, 0, 1, 2, 3, 4, 5);
        x.row(1, 2, 3);
        due.is("copy", x.copy(0, 1, 3, 1, 2), 1);
        due.is("copied", x.element(1, 0), 0);
        due.is("copied", x.element(1, 1), 4);
        due.is("copied", x.element(1, 2), 5);
        due.is("forward", x.copy(0, 0, 0, 1, 4), 1);
        int[] forward = {1, 1, 2, 3, 4};
        for (int i = 0; i < 5; i++) {
            due.is("as they were ahead", x.element(0, i), forward[i]);
        }
        due.is("back", x.copy(0, 0, 1, 0, 4), 1);
        int[] back = {1, 2, 3, 4, 4};
        for (int i = 0; i < 5; i++) {
            due.is("as they were ahead", x.element(0, i), back[i]);
        }
        due.is("none, at the ends", x.copy(0, 1, 5, 3, 0), 1);
        due.is("end of p", x.copy(0, 1, 6, 0, 0), -5);
        due.is("end of p", x.copy(0, 1, 4, 0, 2), -5);
        due.is("end of q", x.copy(0, 1, 0, 2, 2), -5);
        due.is("i below", x.copy(0, 1, -1, 0, 1), -5);
        due.is("j below", x.copy(0, 1, 0, -1, 1), -5);
        due.is("no wrapping", x.copy(0, 1, Integer.MAX_VALUE, 0, Integer.MAX_VALUE), -5);
        due.is("n below first", x.copy(0, 1, -1, -1, -1), -4);
        due.is("p nothing", x.copy(2, 1, 0, 0, -1), -3);
        due.is("q nothing", x.copy(0, 2, 0, 0, 1), -3);
        x.row(3, 3, 3);
        due.is("two sorts", x.copy(0, 3, 0, 0, -1), -2);
        x.person(0, 0, 0, 0, 0, 0);
        x.show(4, 0);
        due.is("person to row", x.copy(4, 0, 0, 0, 1), -2);
        due.is("row to person", x.copy(0, 4, 0, 0, 1), -2);
        due.is("person to nothing", x.copy(4, 2, 0, 0, 1), -2);
        due.is("nothing to person", x.copy(2, 4, 0, 0, 1), -2);
        due.is("no p", x.copy(-1, 4, 0, 0, 1), -1);
        due.is("no q", x.copy(4, 8, 0, 0, 1), -1);
    }

    private static void people() {
        TaxOnLooks x = new TaxOnLooks();
        due.is("nobody yet", x.show(0, 0), -1);
        x.person(0, 0, 0, 0, 0, 0);
        x.person(0, 0, 0, 0, 0, 0);
        due.is("show", x.show(0, 1), 1);
        due.is("holds", x.holds(0), 1);
        due.is("no such one", x.show(0, 2), -1);
        due.is("no such one", x.show(0, -2), -1);
        due.is("still", x.holds(0), 1);
        due.is("no shelf", x.show(8, 0), -1);
        due.is("no shelf", x.show(-1, -1), -1);
        due.is("nothing", x.show(0, -1), 0);
        due.is("holds nothing", x.holds(0), -1);
        x.row(1, 3, 4);
        x.set(1, 0, 9);
        due.is("over a row", x.show(1, 0), 1);
        due.is("holds", x.holds(1), 0);
        due.is("no element", x.element(1, 0), 0);
        due.is("a row over one", x.row(1, 1, 4), 1);
        due.is("holds", x.holds(1), 101);
        x.set(1, 0, 9);
        due.is("nothing over a row", x.show(1, -1), 0);
        due.is("the row is gone", x.set(1, 0, 1), -3);
        due.is("no element", x.element(1, 0), 0);
        due.is("no shelf", x.holds(8), -1);
        due.is("no shelf", x.holds(-1), -1);
        due.is("refused", x.status(11), 5);
    }

    private static void sayings() {
        TaxOnLooks x = new TaxOnLooks();
        int[] above = {-1, 0, 1, 0, 0, 3, 4};
        int[] shows = {10, 20, 23, 10, 10, 10, 6};
        for (int kind = 0; kind < 7; kind++) {
            x.person(kind, 3, 10, 4, 50 + kind, 30 - kind);
        }
        for (int mine = 0; mine < 7; mine++) {
            x.show(0, mine);
            for (int kind = 0; kind < 7; kind++) {
                boolean under = kind == mine || kind == above[mine]
                        || above[mine] > 0 && kind == above[above[mine]];
                int[] says = {30 - mine, shows[mine], shows[mine], 50 + mine, 4, 50 + mine, 4};
                due.is(mine + " as " + kind, x.says(0, kind), under ? says[kind] : -2);
            }
        }
        x.show(0, 1);
        x.ask(2, 1);
        due.is("in rain", x.says(0, 1), 10);
        x.sack(1, true);
        due.is("in a sack", x.says(0, 1), 0);
        due.is("no kind", x.says(0, 7), -1);
        due.is("no kind", x.says(0, -1), -1);
        due.is("no shelf", x.says(8, 0), -1);
        due.is("no shelf", x.says(-1, 0), -1);
        due.is("no kind of nothing", x.says(1, 7), -1);
        due.is("nothing", x.says(1, 0), -3);
        x.row(1, 0, 1);
        due.is("a row", x.says(1, 0), -2);
    }
}
