/** Promises 34 to 37: moves by bodies, their trace, and the image. */
final class MoveTest {
    private static final Due due = new Due("MoveTest");

    /** The document's bodies as Java's own classes; the trace is written by the bodies. */
    private static class Person {
        final StringBuilder ran = new StringBuilder();
        int m;
        int k;

        int looks(int x) {
            ran.append("10 ");
            return x + m;
        }

        int walks(int x) {
            ran.append("11 ");
            return looks(x) * 2;
        }

        int pays(int x) {
            ran.append("12 ");
            return walks(x) ^ looks(x - k);
        }
    }

    private static class Beauty extends Person {
        @Override int looks(int x) {
            ran.append("20 ");
            return super.looks(x) + k;
        }
    }

    private static class Actress extends Beauty {
        @Override int looks(int x) {
            ran.append("40 ");
            return super.looks(x + 1);
        }
    }

    private static class Blind extends Person {
        @Override int walks(int x) {
            ran.append("30 ");
            return super.walks(x) * 3;
        }
    }

    private static class Lover extends Person {
        @Override int pays(int x) {
            ran.append("50 ");
            return -super.pays(x);
        }

        @Override int looks(int x) {
            ran.append("51 ");
            return super.looks(x) - m;
        }
    }

    private static class Child extends Blind {
        @Override int pays(int x) {
            ran.append("60 ");
            return super.pays(x) ^ 5;
        }
    }

    private static class Shamed extends Lover {
        @Override int looks(int x) {
            ran.append("70 ");
            return super.looks(x) * 2;
        }

        @Override int walks(int x) {
            ran.append("71 ");
            return super.walks(x - k);
        }
    }

    private static Person of(int kind) {
        switch (kind) {
            case 0: return new Person();
            case 1: return new Beauty();
            case 2: return new Actress();
            case 3: return new Blind();
            case 4: return new Lover();
            case 5: return new Child();
            default: return new Shamed();
        }
    }

    public static void main(String[] args) {
        moves();
        told();
        noMoves();
        image();
        imageOfAll();
        due.end();
    }

    private static void moves() {
        int[] xs = {0, 1, -1, 7, 1000, Integer.MAX_VALUE, Integer.MIN_VALUE, 0x55555555};
        for (int shift = 0; shift < 7; shift++) {
            TaxOnLooks x = new TaxOnLooks();
            for (int i = 0; i < 7; i++) {
                x.person((i + shift) % 7, (i * 5 + shift) % 10, 0, 0, 0, 0);
            }
            for (int i = 0; i < 7; i++) {
                for (int v : xs) {
                    for (int move = 0; move < 3; move++) {
                        Person p = of((i + shift) % 7);
                        p.m = i;
                        p.k = (i * 5 + shift) % 10;
                        int want = move == 0 ? p.looks(v) : move == 1 ? p.walks(v) : p.pays(v);
                        due.is("act", x.act(i, move, v), want);
                        String[] ran = p.ran.toString().trim().split(" ");
                        due.is("ran", x.status(10), ran.length);
                        if (v == 7) {
                            for (int t = 0; t < ran.length; t++) {
                                due.is("trace", x.trace(t), Integer.parseInt(ran[t]));
                            }
                        }
                        due.is("behind the trace", x.trace(ran.length), -1);
                    }
                }
            }
        }
    }

    private static void told() {
        TaxOnLooks x = new TaxOnLooks();
        x.person(0, 0, 0, 0, 0, 0);
        x.person(6, 3, 0, 0, 0, 0);
        // looks(v) = 2 * (v + 1 - 1) = 2v; walks(10) = 2 * looks(7) = 28; looks(10 - 3) = 14.
        due.is("pays", x.act(1, 2, 10), -(28 ^ 14));
        int[] trace = {50, 12, 71, 11, 70, 51, 10, 70, 51, 10};
        for (int i = 0; i < trace.length; i++) {
            due.is("trace", x.trace(i), trace[i]);
        }
        due.is("ran", x.status(10), 10);
    }

    private static void noMoves() {
        TaxOnLooks x = new TaxOnLooks();
        x.person(0, 0, 0, 0, 0, 0);
        int[][] wrong = {{1, 0}, {-1, 0}, {0, 3}, {0, -1}, {7, 0}};
        for (int[] w : wrong) {
            due.is("looks", x.act(0, 0, 9), 9);
            due.is("trace", x.trace(0), 10);
            due.is("before", x.trace(-1), -1);
            due.is("behind", x.trace(1), -1);
            due.is("far behind", x.trace(20), -1);
            due.is("no move", x.act(w[0], w[1], 9), 0);
            due.is("no trace", x.trace(0), -1);
            due.is("none ran", x.status(10), 0);
        }
        for (int which = 11; which <= 17; which++) {
            due.is("nothing refused", x.status(which), 0);
        }
    }

    private static void image() {
        TaxOnLooks x = new TaxOnLooks();
        due.is("none yet", x.restore(), -6);
        due.is("of nobody", x.image(), 0);
        x.person(0, 0, 0, 0, 0, 0);
        x.show(0, 0);
        due.is("of one", x.image(), 1);
        x.person(1, 0, 0, 0, 0, 0);
        x.show(1, 1);
        x.show(2, 0);
        x.row(3, 2, 4);
        x.set(3, 1, 9);
        due.is("restore", x.restore(), 1);
        due.is("is there", x.holds(0), 0);
        due.is("is gone", x.holds(1), -1);
        due.is("is there", x.holds(2), 0);
        due.is("a row stays", x.holds(3), 102);
        due.is("a row stays", x.element(3, 1), 9);
        due.is("one", x.status(0), 1);
        due.is("kind", x.personOf(1, 0), -5);
        due.is("a new one", x.person(5, 0, 0, 0, 0, 0), 1);
        due.is("he is not shown", x.holds(1), -1);
        due.is("again", x.restore(), 1);
    }

    private static void imageOfAll() {
        TaxOnLooks x = Due.townOf("person 2 3 4 5 60 7;person 6 0 9 0 8 7;sack 1;wall 3;wall 4;"
                + "balcony 7;mite 4;reach 3");
        x.ask(2, 1);
        x.seed(99);
        Due.tell(x, 0, 2, 0);
        x.done(0, 2);
        x.act(0, 0, 0);
        long[] before = told(x);
        x.image();
        Due.write(x, 1, "gap 3;wall 9;balcony 4;mite 1;reach 1;person 0 0 0 0 0 0;sack 0");
        x.town(1);
        Due.write(x, 1, "gaq");
        x.town(1);
        x.sack(1, false);
        x.put(0, 35);
        x.ask(2, 0);
        x.hours(40);
        x.act(1, 2, 0);
        due.is("wrong", x.status(16), 1);
        x.restore();
        long[] after = told(x);
        for (int i = 0; i < before.length; i++) {
            due.is("as it was " + i, after[i], before[i]);
        }
        due.is("the trace stays", x.trace(0), 50);
        due.is("the fault stays", x.fault(), 2);
        due.is("refusals stay", x.status(16), 1);
    }

    /** All that an image has. */
    private static long[] told(TaxOnLooks x) {
        long[] all = new long[10 + 2 * 8 + 36 * 2];
        int n = 0;
        for (int what = 0; what < 10; what++) {
            all[n++] = x.status(what);
        }
        for (int i = 0; i < 2; i++) {
            for (int what = 0; what < 8; what++) {
                all[n++] = x.personOf(i, what);
            }
        }
        for (int square = 0; square < 36; square++) {
            all[n++] = x.squareOf(square, 0);
            all[n++] = x.squareOf(square, 1);
        }
        return all;
    }
}
