/** Promises 9 to 15, 33 and 38: people, squares, what is asked, and what is told of them. */
final class TownTest {
    private static final Due due = new Due("TownTest");

    public static void main(String[] args) {
        persons();
        builds();
        puts();
        sacked();
        asks();
        shows();
        seeds();
        statuses();
        due.end();
    }

    private static void persons() {
        TaxOnLooks x = new TaxOnLooks();
        x.build(5, 0, true);
        due.is("kind first", x.person(7, 10, 21, 10, 10000, 36), -1);
        due.is("kind -1", x.person(-1, 0, 0, 0, 0, 0), -1);
        int[] least = {0, 0, 0, 0, 0};
        int[] most = {9, 20, 9, 9999, 35};
        for (int i = 0; i < 5; i++) {
            due.is("above " + i, personWith(x, least, i, most[i] + 1), -6);
            due.is("below " + i, personWith(x, most, i, -1), -6);
        }
        due.is("wall", x.person(0, 0, 0, 0, 0, 5), -6);
        due.is("nobody", x.status(0), 0);
        due.is("least", personWith(x, least, 0, 0), 0);
        due.is("most", personWith(x, most, 0, 9), 1);
        int[] told = {6, 9, 20, 9, 9999, 35, 0, 11};
        for (int what = 0; what < 8; what++) {
            due.is("told " + what, x.personOf(1, what), told[what]);
        }
        for (int i = 2; i < 7; i++) {
            due.is("number", x.person(i, 0, 0, 0, 0, 35), i);
        }
        due.is("wrong before room", x.person(0, 0, 0, 0, 0, 5), -6);
        due.is("no kind before room", x.person(7, 0, 0, 0, 0, 0), -1);
        due.is("no room", x.person(0, 0, 0, 0, 0, 0), -7);
        due.is("seven", x.status(0), 7);
        due.is("room refused once", x.status(17), 1);
        due.is("of one", x.personOf(0, 8), -5);
        due.is("of one", x.personOf(0, -1), -5);
        due.is("of one", x.personOf(7, 0), -5);
        due.is("of one", x.personOf(-1, 0), -5);
    }

    private static int personWith(TaxOnLooks x, int[] usual, int i, int v) {
        int[] n = usual.clone();
        n[i] = v;
        return x.person(6, n[0], n[1], n[2], n[3], n[4]);
    }

    private static void builds() {
        TaxOnLooks x = new TaxOnLooks();
        x.person(0, 0, 0, 0, 0, 0);
        due.is("wall", x.build(35, 0, true), 0);
        due.is("again", x.build(35, 0, true), 1);
        due.is("is wall", x.squareOf(35, 0), 1);
        due.is("balcony on a wall", x.build(35, 1, true), 0);
        due.is("is balcony", x.squareOf(35, 1), 1);
        due.is("no wall", x.build(35, 0, false), 1);
        due.is("no wall", x.build(35, 0, false), 0);
        due.is("still balcony", x.squareOf(35, 1), 1);
        due.is("no balcony", x.build(35, 1, false), 1);
        due.is("no balcony", x.build(35, 1, false), 0);
        due.is("where one is", x.build(0, 0, true), -6);
        due.is("no wall where one is", x.build(0, 0, false), 0);
        due.is("balcony where one is", x.build(0, 1, true), 0);
        due.is("square", x.build(36, 0, true), -6);
        due.is("square", x.build(-1, 1, true), -6);
        due.is("what", x.build(0, 2, true), -6);
        due.is("what", x.build(0, -1, true), -6);
        due.is("of square", x.squareOf(0, 3), -5);
        due.is("of square", x.squareOf(0, -1), -5);
        due.is("of square", x.squareOf(-1, 0), -5);
        due.is("of square", x.squareOf(36, 0), -5);
    }

    private static void puts() {
        TaxOnLooks x = new TaxOnLooks();
        x.person(0, 0, 0, 0, 0, 3);
        x.person(0, 0, 0, 0, 0, 3);
        x.person(0, 0, 0, 0, 0, 4);
        x.build(9, 0, true);
        due.is("there", x.squareOf(3, 2), 3);
        due.is("put", x.put(1, 4), 3);
        due.is("there", x.squareOf(3, 2), 1);
        due.is("there", x.squareOf(4, 2), 6);
        due.is("at", x.personOf(1, 5), 4);
        due.is("where he is", x.put(1, 4), 4);
        due.is("wall", x.put(1, 9), -6);
        due.is("square", x.put(1, 36), -6);
        due.is("square", x.put(1, -1), -6);
        due.is("nobody first", x.put(3, 36), -1);
        due.is("nobody", x.put(-1, 0), -1);
        due.is("still", x.personOf(1, 5), 4);
    }

    private static void sacked() {
        TaxOnLooks x = new TaxOnLooks();
        x.person(0, 0, 7, 0, 0, 3);
        due.is("show", x.personOf(0, 7), 7);
        due.is("not yet", x.sack(0, false), 0);
        due.is("sack", x.sack(0, true), 0);
        due.is("in it", x.personOf(0, 6), 1);
        due.is("no show", x.personOf(0, 7), 0);
        due.is("was", x.sack(0, true), 1);
        due.is("out", x.sack(0, false), 1);
        due.is("out of it", x.personOf(0, 6), 0);
        due.is("nobody", x.sack(1, true), -1);
        due.is("nobody", x.sack(-1, true), -1);
    }

    private static void asks() {
        TaxOnLooks x = new TaxOnLooks();
        due.is("mite", x.ask(0, 9), 1);
        due.is("mite", x.ask(0, 1), 9);
        due.is("mite", x.ask(0, 0), -6);
        due.is("mite", x.ask(0, 10), -6);
        due.is("mite still", x.status(3), 1);
        due.is("reach", x.ask(1, 1), 5);
        due.is("reach", x.ask(1, 5), 1);
        due.is("reach", x.ask(1, 0), -6);
        due.is("reach", x.ask(1, 6), -6);
        due.is("rain", x.ask(2, 1), 0);
        due.is("rain", x.status(5), 1);
        due.is("rain", x.ask(2, 0), 1);
        due.is("rain", x.ask(2, 2), -6);
        due.is("rain", x.ask(2, -1), -6);
        due.is("what", x.ask(3, 1), -6);
        due.is("what", x.ask(-1, 1), -6);
        due.is("wrong", x.status(16), 8);
    }

    private static void shows() {
        TaxOnLooks x = new TaxOnLooks();
        int[] sun = {15, 30, 39, 15, 15, 15, 8};
        for (int kind = 0; kind < 7; kind++) {
            x.person(kind, 9, 15, 7, 0, 0);
            due.is("show of " + kind, x.personOf(kind, 7), sun[kind]);
        }
        x.ask(2, 1);
        for (int kind = 0; kind < 7; kind++) {
            due.is("in rain " + kind, x.personOf(kind, 7), sun[kind] / 2);
        }
        TaxOnLooks y = new TaxOnLooks();
        y.person(6, 0, 3, 5, 0, 0);
        due.is("0 at least", y.personOf(0, 7), 0);
    }

    private static void seeds() {
        TaxOnLooks x = new TaxOnLooks();
        due.is("seed", x.seed(Integer.MIN_VALUE), 1);
        due.is("seed", x.seed(-7), Integer.MIN_VALUE);
        due.is("seed", x.status(9), -7);
    }

    private static void statuses() {
        TaxOnLooks x = Due.townOf("person 0 0 0 0 7 0;person 0 0 0 0 9 0;wall 1;wall 2;wall 2;"
                + "balcony 2;mite 4;reach 3");
        x.ask(2, 1);
        x.seed(77);
        x.act(0, 2, 1);
        int[] told = {2, 2, 1, 4, 3, 1, 0, 0, 16, 77, 4};
        for (int what = 0; what < told.length; what++) {
            due.is("status " + what, x.status(what), told[what]);
        }
        due.is("status", x.status(-1), -1);
        due.is("status", x.status(18), -1);
        due.is("status", x.status(Integer.MAX_VALUE), -1);
        due.is("status", x.status(Integer.MIN_VALUE), -1);
        due.is("nothing refused", x.status(11) + x.status(15) + x.status(16), 0);
        x.put(9, 0);
        x.row(0, 0, -1);
        x.row(0, 0, -1);
        x.set(0, 0, 0);
        x.judge(0, 0);
        x.show(0, 0);
        x.judge(0, 0);
        x.walk(0, 99, 9);
        x.walk(0, 99, 0);
        x.row(0, 0, 999);
        int[] refused = {1, 1, 2, 2, 1, 1, 1};
        for (int i = 0; i < 7; i++) {
            due.is("refused " + (i + 1), x.status(11 + i), refused[i]);
        }
    }
}
