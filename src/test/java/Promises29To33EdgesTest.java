import java.util.Arrays;

/** The edges that the document names of promises 29 to 33: told strolls, hours by draws, seeds. */
final class Promises29To33EdgesTest {
    private static final int LEAST = Edge.LEAST;
    private static final int MOST = Edge.MOST;

    public static void main(String[] args) throws IllegalAccessException {
        Edges.run(Promises29To33EdgesTest.class, 29, 33);
    }

    /** One who is looked at by the next, and a blind one with an empty purse far off. */
    private static final String STREET = "mite 2;balcony 1;person 0 0 20 0 5 0;person 0 0 0 0 9 2;"
            + "person 3 0 0 0 0 35";

    /** The street, and a stroll in shelf 0; shelf 1 one of the people, 2 nothing. */
    private static void street(TaxOnLooks x, int... told) {
        Due.settle(x, 7, STREET);
        x.show(1, 0);
        Due.tell(x, 0, told);
    }

    /** A stroll of n steps to and fro. */
    private static int[] toAndFro(int n) {
        int[] told = new int[n];
        for (int i = 0; i < n; i++) {
            told[i] = i % 2 == 0 ? 2 : 0;
        }
        return told;
    }

    private interface Stroll {
        int take(TaxOnLooks x, int s, int n);
    }

    /** The refusals that judge, behind and done have in common, told so much lower. */
    private static void refusals(Edge e, int lower, Stroll stroll) {
        e.given(x -> street(x, 1, 3, 1));
        for (int s : new int[] {LEAST, -1, 8, MOST}) {
            e.refused(-1 - lower, x -> stroll.take(x, s, 0));
        }
        e.refused(-2 - lower, x -> stroll.take(x, 1, 0));
        e.refused(-3 - lower, x -> stroll.take(x, 2, 0));
        e.refused(-4 - lower, x -> stroll.take(x, 0, -1));
        e.refused(-4 - lower, x -> stroll.take(x, 0, LEAST));
        e.refused(-5 - lower, x -> stroll.take(x, 0, 4));
        e.refused(-5 - lower, x -> stroll.take(x, 0, MOST));
        e.given(x -> street(x));
        e.refused(-5 - lower, x -> stroll.take(x, 0, 1));
        e.given(x -> street(x, toAndFro(41)));
        e.refused(-6 - lower, x -> stroll.take(x, 0, 41));
        e.given(x -> street(x, toAndFro(160)));
        e.refused(-6 - lower, x -> stroll.take(x, 0, 160));
    }

    /** Of these the first that fits. */
    private static void order(Edge e, int lower, Stroll stroll) {
        e.given(x -> street(x, toAndFro(41)));
        e.refused(-1 - lower, x -> stroll.take(x, 8, -1));
        e.refused(-2 - lower, x -> stroll.take(x, 1, -1));
        e.refused(-2 - lower, x -> stroll.take(x, 1, 42));
        e.refused(-3 - lower, x -> stroll.take(x, 2, -1));
        e.refused(-3 - lower, x -> stroll.take(x, 2, 42));
        e.refused(-5 - lower, x -> stroll.take(x, 0, 42));
    }

    static void promise29Refusals(Edge e) {
        refusals(e, 10, (x, s, n) -> x.judge(s, n));
    }

    static void promise29FirstRefusalThatFits(Edge e) {
        order(e, 10, (x, s, n) -> x.judge(s, n));
    }

    private static void judged(Edge e, int wrong, int... told) {
        e.given(x -> street(x, told));
        e.asked(wrong, x -> x.judge(0, told.length));
    }

    static void promise29NoneOrAll40Elements(Edge e) {
        judged(e, -1);
        judged(e, -1, toAndFro(40));
        int[] told = toAndFro(40);
        told[39] = 2 + 20;
        judged(e, 39, told);
        e.given(x -> street(x, 9, 9));
        e.asked(-1, x -> x.judge(0, 0));
        e.given(x -> street(x, toAndFro(41)));
        e.asked(-1, x -> x.judge(0, 40));
    }

    static void promise29ByTheFirstElements(Edge e) {
        e.given(x -> street(x, 1, 0));
        e.asked(-1, x -> x.judge(0, 1));
        e.asked(1, x -> x.judge(0, 2));
    }

    static void promise29NoSuchPersonOrWay(Edge e) {
        for (int way = 4; way < 10; way++) {
            judged(e, 0, way);
            judged(e, 1, 23, 20 + way);
        }
        judged(e, 0, 30);
        judged(e, 0, 31);
        judged(e, 1, 2, 72);
        judged(e, 0, -1);
        judged(e, 0, -9);
        judged(e, 0, -10);
        judged(e, 0, LEAST);
        judged(e, 0, MOST);
        judged(e, -1, 23);
        e.given(x -> x.row(0, 0, 1));
        e.asked(0, x -> x.judge(0, 1));
        e.asked(-1, x -> x.judge(0, 0));
    }

    static void promise29TheSeventh(Edge e) {
        e.given(x -> {
            for (int i = 0; i < 7; i++) {
                x.person(0, 0, 0, 0, 0, 35);
            }
            Due.tell(x, 0, 63, 73);
        });
        e.asked(-1, x -> x.judge(0, 1));
        e.asked(1, x -> x.judge(0, 2));
    }

    static void promise29OffTheTown(Edge e) {
        int[][] off = {{0, 3}, {0, 1}, {3, 2}, {1, 2}};
        int[] corners = {0, 5, 30, 35};
        for (int c = 0; c < 4; c++) {
            int corner = corners[c];
            for (int way = 0; way < 4; way++) {
                int to = way;
                e.given(x -> {
                    x.person(0, 0, 0, 0, 0, corner);
                    Due.tell(x, 0, to);
                });
                e.asked(way == off[c][0] || way == off[c][1] ? 0 : -1, x -> x.judge(0, 1));
            }
        }
        judged(e, 5, 1, 1, 1, 1, 1, 1);
        judged(e, 5, 2, 2, 2, 2, 2, 2);
    }

    static void promise29AWall(Edge e) {
        int[] beside = {8, 15, 20, 13};
        for (int way = 0; way < 4; way++) {
            int to = way;
            e.given(x -> {
                x.person(0, 0, 0, 0, 0, 14);
                x.build(beside[to], 0, true);
                Due.tell(x, 0, to);
            });
            e.asked(0, x -> x.judge(0, 1));
            e.given(x -> {
                x.person(0, 0, 0, 0, 0, 14);
                x.build(beside[to], 1, true);
                x.person(0, 0, 0, 0, 0, beside[to]);
                Due.tell(x, 0, to);
            });
            e.asked(-1, x -> x.judge(0, 1));
        }
    }

    static void promise29ReadAsInts(Edge e) {
        e.given(x -> {
            street(x);
            x.row(0, 3, 2);
            x.set(0, 0, 1 + (1L << 32));
            x.set(0, 1, 1L << 31);
        });
        e.asked(-1, x -> x.judge(0, 1));
        e.asked(1, x -> x.judge(0, 2));
    }

    static void promise30Refusals(Edge e) {
        for (int what = 0; what < 3; what++) {
            int of = what;
            refusals(e, 0, (x, s, n) -> x.behind(s, n, of));
        }
    }

    static void promise30FirstRefusalThatFits(Edge e) {
        order(e, 0, (x, s, n) -> x.behind(s, n, 0));
        e.refused(-1, x -> x.behind(8, -1, 3));
        e.refused(-2, x -> x.behind(1, -1, 3));
        e.refused(-3, x -> x.behind(2, -1, 3));
        e.refused(-4, x -> x.behind(0, -1, 3));
        e.refused(-5, x -> x.behind(0, 41, 3));
        e.given(x -> street(x, 0));
        e.refused(-5, x -> x.behind(0, 1, 3));
        e.refused(-6, x -> x.behind(0, 1, 2));
    }

    static void promise30NoSuchWhat(Edge e) {
        e.given(x -> street(x, 1));
        for (int what : new int[] {LEAST, -1, 3, MOST}) {
            e.refused(-5, x -> x.behind(0, 0, what));
            e.refused(-5, x -> x.behind(0, 1, what));
        }
    }

    static void promise30NobodyIsThere(Edge e) {
        e.given(x -> x.row(0, 0, 41));
        e.refused(-5, x -> x.behind(0, 0, 1));
        e.refused(-5, x -> x.behind(0, 1, 1));
        e.refused(-5, x -> x.behind(0, 41, 1));
        e.refused(-4, x -> x.behind(0, -1, 1));
        e.asked(0, x -> x.behind(0, 0, 0));
        e.asked(0, x -> x.behind(0, 0, 2));
        e.refused(-6, x -> x.behind(0, 1, 0));
        e.refused(-6, x -> x.behind(0, 1, 2));
    }

    static void promise30AWrongStroll(Edge e) {
        e.given(x -> street(x, 1, 0, 3));
        for (int what = 0; what < 3; what++) {
            int of = what;
            e.refused(-6, x -> x.behind(0, 2, of));
            e.refused(-6, x -> x.behind(0, 3, of));
        }
        e.asked(2, x -> x.behind(0, 1, 0));
    }

    private static void behind(Edge e, int n, int paid, int where, int empty) {
        e.asked(paid, x -> x.behind(0, n, 0));
        e.asked(where, x -> x.behind(0, n, 1));
        e.asked(empty, x -> x.behind(0, n, 2));
    }

    static void promise30AsMuchAsIsInThePurse(Edge e) {
        e.given(x -> street(x, 1, 3, 1, 3));
        behind(e, 0, 0, 0, 1);
        behind(e, 1, 2, 1, 1);
        behind(e, 2, 4, 0, 1);
        behind(e, 3, 5, 1, 2);
        behind(e, 4, 5, 0, 2);
    }

    static void promise30WhoHasWalkedPays(Edge e) {
        // 1 comes to where 0 would owe, 0 stands: nothing is paid; then 0 goes off, out of sight.
        e.given(x -> street(x, 13, 12, 11, 2));
        behind(e, 1, 0, 0, 1);
        behind(e, 3, 0, 0, 1);
        behind(e, 4, 0, 6, 1);
    }

    static void promise30FortySteps(Edge e) {
        e.given(x -> street(x, toAndFro(40)));
        // Down at 6 none of it is entered, up at 0 it is: 2, 2 and 1.
        behind(e, 40, 5, 0, 2);
        behind(e, 5, 4, 6, 1);
        behind(e, 6, 5, 0, 2);
    }

    static void promise31Refusals(Edge e) {
        refusals(e, 0, (x, s, n) -> x.done(s, n));
    }

    static void promise31FirstRefusalThatFits(Edge e) {
        order(e, 0, (x, s, n) -> x.done(s, n));
    }

    static void promise31AWrongStroll(Edge e) {
        e.given(x -> street(x, 1, 0, 3));
        e.refused(-6, x -> x.done(0, 2));
        e.refused(-6, x -> x.done(0, 3));
        e.given(x -> x.row(0, 0, 1));
        e.refused(-6, x -> x.done(0, 1));
    }

    static void promise31OfNoSteps(Edge e) {
        e.given(x -> street(x));
        TaxOnLooks x = e.x();
        e.is(0, x.done(0, 0));
        e.is(1, x.status(6));
        e.is(0, x.done(0, 0));
        e.is(2, x.status(6));
        e.is(14, x.status(8));
        e.is(0, x.personOf(0, 5));
        e.given(y -> y.row(0, 0, 0));
        e.answers(0, y -> y.done(0, 0));
    }

    static void promise31PursesTakenAndOneHour(Edge e) {
        e.given(x -> street(x, 1, 3, 1));
        TaxOnLooks x = e.x();
        x.ask(2, 1);
        e.is(5, x.done(0, 3));
        e.is(0, x.personOf(0, 4));
        e.is(9, x.personOf(1, 4));
        e.is(1, x.personOf(0, 5));
        int[] status = {3, 0, 1, 2, 5, 1, 1, 5, 9, 1};
        for (int what = 0; what < status.length; what++) {
            e.is(status[what], x.status(what));
        }
        Due.tell(x, 0, 3, 1);
        e.is(5, x.done(0, 2));
        e.is(2, x.status(6));
        e.is(0, x.behind(0, 0, 0));
    }

    static void promise31FortySteps(Edge e) {
        e.given(x -> street(x, toAndFro(40)));
        TaxOnLooks x = e.x();
        e.is(5, x.done(0, 40));
        e.is(1, x.status(6));
    }

    static void promise32NumberThatMayNotBe(Edge e) {
        e.given(x -> street(x));
        for (int n : new int[] {LEAST, -1, 0, 41, MOST}) {
            e.refused(-6, x -> x.hours(n));
        }
    }

    static void promise32OneTo40(Edge e) {
        for (int n : new int[] {1, 2, 39, 40}) {
            TaxOnLooks x = e.x();
            e.is(0, x.hours(n));
            e.is(n, x.status(6));
            int seed = 1;
            for (int i = 0; i < n; i++) {
                seed = next(seed);
            }
            e.is(seed, x.status(9));
            x.hours(1);
            e.is(n + 1, x.status(6));
        }
    }

    /** The seed behind a draw, by way of longs. */
    private static int next(int seed) {
        return (int) ((seed * 1103515245L + 12345L) % (1L << 32));
    }

    private static int draw(int seed, int below) {
        return (int) (Integer.toUnsignedLong(seed) / 65536 % below);
    }

    static void promise32SeedWrapsAround(Edge e) {
        for (int seed : new int[] {LEAST, LEAST + 1, -1, 0, 1, MOST - 1, MOST, 1 << 30}) {
            TaxOnLooks x = e.x();
            x.seed(seed);
            x.hours(1);
            e.is(next(seed), x.status(9));
            e.is(draw(next(seed), 4) == 0 ? 1 : 0, x.status(5));
        }
    }

    static void promise32RainsJustIfADrawIs0(Edge e) {
        boolean[] seen = new boolean[4];
        for (int seed = 0; seed < 16; seed++) {
            int drawn = draw(next(seed), 4);
            seen[drawn] = true;
            for (int was = 0; was < 2; was++) {
                TaxOnLooks x = e.x();
                x.ask(2, was);
                x.seed(seed);
                x.hours(1);
                e.is(drawn == 0 ? 1 : 0, x.status(5));
            }
        }
        for (boolean s : seen) {
            e.is(1, s ? 1 : 0);
        }
    }

    static void promise32StepsByDrawsWithoutASign(Edge e) {
        int[] to = {8, 15, 20, 13, 14};
        int[] seen = new int[10];
        for (int seed = 0; seed < 60; seed++) {
            TaxOnLooks x = e.x();
            x.person(0, 0, 0, 0, 0, 14);
            x.seed(seed * 7919);
            x.hours(1);
            int second = next(next(seed * 7919));
            int drawn = draw(second, 5);
            seen[second < 0 ? 5 + drawn : drawn]++;
            e.is(to[drawn], x.personOf(0, 5));
            e.is(second, x.status(9));
        }
        // Each draw came with a seed below 0 and with one above.
        Arrays.sort(seen);
        e.is(1, seen[0] > 0 ? 1 : 0);
    }

    static void promise32StepThatCantBe(Edge e) {
        for (int corner : new int[] {0, 35}) {
            int ahead = corner == 0 ? 1 : -1;
            for (int seed = 0; seed < 20; seed++) {
                TaxOnLooks x = e.x();
                x.person(0, 0, 0, 0, 0, corner);
                x.person(0, 0, 0, 0, 0, 14);
                x.build(corner + ahead, 0, true);
                x.build(corner + 6 * ahead, 0, true);
                x.seed(seed);
                x.hours(1);
                int third = next(next(next(seed)));
                e.is(corner, x.personOf(0, 5));
                // The other's draw is the third all the same.
                e.is(new int[] {8, 15, 20, 13, 14}[draw(third, 5)], x.personOf(1, 5));
                e.is(third, x.status(9));
            }
        }
    }

    static void promise32AsMuchAsTheyHave(Edge e) {
        e.given("person 1 0 20 9 7 0;person 0 0 0 0 9 0;person 1 0 20 9 0 0;wall 1;wall 6;balcony 0;"
                + "mite 3");
        // 0 owes 6 an hour for the glances of 1 and 2, in rain too.
        TaxOnLooks x = e.x();
        e.is(6, x.duty(0, 0));
        x.ask(2, 1);
        e.is(6, x.duty(0, 0));
        e.is(6, x.hours(1));
        e.is(1, x.personOf(0, 4));
        e.is(9, x.personOf(1, 4));
        e.is(0, x.personOf(2, 4));
        e.is(7, x.hours(1));
        e.is(0, x.personOf(0, 4));
        e.is(7, x.hours(40));
        e.is(7, x.status(7));
        e.is(42, x.status(6));
        e.is(9, x.status(8));
    }

    static void promise32AllSevenPay(Edge e) {
        // Who can't walk stays: each is walled in with all others, and owes 6.
        e.given(x -> {
            for (int i = 0; i < 7; i++) {
                x.person(0, 0, 20, 0, 3 * i, 35);
            }
            x.build(29, 0, true);
            x.build(34, 0, true);
            x.build(35, 1, true);
        });
        TaxOnLooks x = e.x();
        e.is(33, x.hours(1));
        int[] left = {0, 0, 0, 3, 6, 9, 12};
        int seed = next(1);
        for (int i = 0; i < 7; i++) {
            e.is(left[i], x.personOf(i, 4));
            e.is(35, x.personOf(i, 5));
            seed = next(seed);
        }
        e.is(seed, x.status(9));
        e.is(63, x.hours(40));
        e.is(0, x.status(8));
    }

    static void promise33AnySeed(Edge e) {
        TaxOnLooks x = e.x();
        int was = 1;
        for (int seed : new int[] {0, -1, LEAST, MOST, MOST, 1}) {
            e.is(was, x.seed(seed));
            e.is(seed, x.status(9));
            was = seed;
        }
        for (int which = 11; which <= 17; which++) {
            e.is(0, x.status(which));
        }
        e.asked(1, y -> y.seed(1));
    }
}
