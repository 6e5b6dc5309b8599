/** The edges that the document names of promises 34 to 38: moves, the trace, the image, status. */
final class Promises34To38EdgesTest {
    private static final int LEAST = Edge.LEAST;
    private static final int MOST = Edge.MOST;
    /** The bodies of looks, walks and pays by kinds. */
    private static final int[][][] TRACES = {
        {{10}, {11, 10}, {12, 11, 10, 10}},
        {{20, 10}, {11, 20, 10}, {12, 11, 20, 10, 20, 10}},
        {{40, 20, 10}, {11, 40, 20, 10}, {12, 11, 40, 20, 10, 40, 20, 10}},
        {{10}, {30, 11, 10}, {12, 30, 11, 10, 10}},
        {{51, 10}, {11, 51, 10}, {50, 12, 11, 51, 10, 51, 10}},
        {{10}, {30, 11, 10}, {60, 12, 30, 11, 10, 10}},
        {{70, 51, 10}, {71, 11, 70, 51, 10}, {50, 12, 71, 11, 70, 51, 10, 70, 51, 10}},
    };

    public static void main(String[] args) throws IllegalAccessException {
        Edges.run(Promises34To38EdgesTest.class, 34, 38);
    }

    /** Seven people, one of each kind, by kinds, with a 3. */
    private static void kinds(TaxOnLooks x) {
        for (int kind = 0; kind < 7; kind++) {
            x.person(kind, 3, 0, 0, 0, 0);
        }
    }

    static void promise34NoSuchPersonOrMove(Edge e) {
        int[][] wrong = {{7, 0}, {-1, 0}, {LEAST, 2}, {MOST, 2}, {0, -1}, {0, 3}, {6, LEAST}, {6, MOST},
            {7, 3}};
        for (int[] w : wrong) {
            e.given(Promises34To38EdgesTest::kinds);
            e.asked(0, x -> x.act(w[0], w[1], 9));
            TaxOnLooks x = e.x();
            e.is(9, x.act(0, 0, 9));
            e.is(10, x.trace(0));
            e.is(0, x.act(w[0], w[1], 9));
            e.is(-1, x.trace(0));
            e.is(0, x.status(10));
            for (int which = 11; which <= 17; which++) {
                e.is(0, x.status(which));
            }
        }
        e.given(x -> { });
        e.asked(0, x -> x.act(0, 0, 9));
    }

    static void promise34BodiesOfEachKind(Edge e) {
        e.given(Promises34To38EdgesTest::kinds);
        int[][] told = {{10, 20, 19}, {14, 28, 23}, {16, 32, 45}, {13, 78, 68}, {10, 20, -19},
            {15, 90, 83}, {20, 28, -18}};
        for (int kind = 0; kind < 7; kind++) {
            int who = kind;
            for (int move = 0; move < 3; move++) {
                int of = move;
                e.answers(told[kind][move], x -> x.act(who, of, 10));
            }
        }
    }

    static void promise34NumberAndALeastAndMost(Edge e) {
        TaxOnLooks x = e.x();
        x.person(1, 0, 0, 0, 0, 0);
        x.person(1, 9, 0, 0, 0, 0);
        e.is(5, x.act(0, 0, 5));
        e.is(15, x.act(1, 0, 5));
        x.person(6, 9, 0, 0, 0, 0);
        // looks(v) = 2v of any number; walks(5) = 2 looks(-4) = -16; looks(5 - 9) = -8.
        e.is(-16, x.act(2, 1, 5));
        e.is(-(-16 ^ -8), x.act(2, 2, 5));
    }

    static void promise34WrapsAround(Edge e) {
        e.given(Promises34To38EdgesTest::kinds);
        e.answers(MOST, x -> x.act(0, 0, MOST));
        e.answers(-2, x -> x.act(0, 1, MOST));
        e.answers(0, x -> x.act(0, 1, LEAST));
        e.answers(LEAST + 3, x -> x.act(1, 0, MOST));
        // The ACTRESS, 2: x + 1 + 2 + 3.
        e.answers(LEAST + 5, x -> x.act(2, 0, MOST));
        // The BLIND, 3: (MOST + 3) * 2 * 3 = (LEAST + 2) * 6.
        e.answers(12, x -> x.act(3, 1, MOST));
        // The LOVER, 4: looks(LEAST) is LEAST, walks 0, looks(LEAST - 3) is MOST - 2.
        e.answers(LEAST, x -> x.act(4, 0, LEAST));
        e.answers(-(MOST - 2), x -> x.act(4, 2, LEAST));
        // The SHAMED, 6: walks(LEAST) is 2 looks(MOST - 2), which is 2 (-6).
        e.answers(-12, x -> x.act(6, 1, LEAST));
        e.given(x -> x.person(4, 0, 0, 0, 0, 0));
        // Of LEAST there is no number as far above 0: 0 ^ LEAST stays it.
        e.answers(LEAST, x -> x.act(0, 2, LEAST));
    }

    static void promise35NoneSuch(Edge e) {
        for (int i : new int[] {LEAST, -1, 0, 1, 19, 20, MOST}) {
            e.asked(-1, x -> x.trace(i));
        }
        e.given(x -> {
            kinds(x);
            x.act(0, 1, 0);
        });
        e.asked(11, x -> x.trace(0));
        e.asked(10, x -> x.trace(1));
        for (int i : new int[] {LEAST, -1, 2, 3, 19, 20, MOST}) {
            e.asked(-1, x -> x.trace(i));
        }
    }

    static void promise35InTheOrderInWhichTheyBegan(Edge e) {
        for (int kind = 0; kind < 7; kind++) {
            for (int move = 0; move < 3; move++) {
                TaxOnLooks x = e.x();
                kinds(x);
                x.act(kind, move, 7);
                int[] trace = TRACES[kind][move];
                e.is(trace.length, x.status(10));
                for (int i = 0; i < trace.length; i++) {
                    e.is(trace[i], x.trace(i));
                }
                e.is(-1, x.trace(trace.length));
            }
        }
    }

    static void promise35OfTheLatestOnly(Edge e) {
        e.given(Promises34To38EdgesTest::kinds);
        TaxOnLooks x = e.x();
        x.act(6, 2, 0);
        e.is(10, x.trace(9));
        e.is(-1, x.trace(10));
        x.act(0, 0, 0);
        e.is(10, x.trace(0));
        e.is(-1, x.trace(1));
        e.is(1, x.status(10));
    }

    static void promise36NobodyAndAllSeven(Edge e) {
        e.answers(0, x -> x.image());
        e.given(Promises34To38EdgesTest::kinds);
        e.answers(7, x -> x.image());
    }

    static void promise36TheLatestIsKept(Edge e) {
        TaxOnLooks x = e.x();
        x.person(0, 0, 0, 0, 0, 0);
        e.is(1, x.image());
        x.person(0, 0, 0, 0, 0, 0);
        x.ask(0, 9);
        e.is(2, x.image());
        x.ask(0, 1);
        e.is(2, x.restore());
        e.is(9, x.status(3));
    }

    /** A town in which nothing is as at first, and a second one over it. */
    private static final String FIRST = "person 2 3 4 5 60 7;person 6 0 9 0 8 7;sack 1;wall 3;wall 4;"
            + "balcony 7;mite 4;reach 3";
    private static final String SECOND = "gap 3;wall 9;balcony 4;mite 1;reach 1;person 0 0 0 0 0 0;"
            + "sack 0";

    /** 1 glances at 0, who shows 5 in the rain, at both squares that 0 comes to: 8 are paid. */
    private static void first(TaxOnLooks x) {
        Due.settle(x, 0, FIRST);
        x.ask(2, 1);
        x.seed(99);
        Due.tell(x, 0, 2, 0);
        x.done(0, 2);
    }

    private static void second(TaxOnLooks x) {
        Due.settle(x, 0, SECOND);
        x.build(7, 1, false);
        x.sack(1, false);
        x.put(0, 35);
        x.put(1, 34);
        x.hours(40);
        x.ask(2, 0);
        x.seed(-1);
    }

    private static void isFirst(Edge e, TaxOnLooks x) {
        int[] status = {2, 2, 1, 4, 3, 1, 1, 8, 60, 99};
        for (int what = 0; what < status.length; what++) {
            e.is(status[what], x.status(what));
        }
        int[][] people = {{2, 3, 4, 5, 52, 7, 0}, {6, 0, 9, 0, 8, 7, 1}};
        for (int i = 0; i < 2; i++) {
            for (int what = 0; what < 7; what++) {
                e.is(people[i][what], x.personOf(i, what));
            }
        }
        for (int square = 0; square < 36; square++) {
            e.is(square == 3 || square == 4 ? 1 : 0, x.squareOf(square, 0));
            e.is(square == 7 ? 1 : 0, x.squareOf(square, 1));
        }
    }

    static void promise36AllThatItHas(Edge e) {
        TaxOnLooks x = e.x();
        first(x);
        isFirst(e, x);
        x.image();
        isFirst(e, x);
        second(x);
        e.is(3, x.status(0));
        e.is(2, x.restore());
        isFirst(e, x);
    }

    static void promise36TakenAheadOfWhatIsTold(Edge e) {
        TaxOnLooks x = e.x();
        x.image();
        first(x);
        second(x);
        e.is(0, x.restore());
        int[] status = {0, 0, 0, 1, 5, 0, 0, 0, 0, 1};
        for (int what = 0; what < status.length; what++) {
            e.is(status[what], x.status(what));
        }
    }

    static void promise37NoImage(Edge e) {
        e.refused(-6, x -> x.restore());
        e.given(Promises34To38EdgesTest::kinds);
        e.refused(-6, x -> x.restore());
    }

    static void promise37Again(Edge e) {
        TaxOnLooks x = e.x();
        first(x);
        x.image();
        second(x);
        e.is(2, x.restore());
        second(x);
        e.is(2, x.restore());
        e.is(2, x.restore());
        isFirst(e, x);
    }

    static void promise37ShelvesWithPeople(Edge e) {
        TaxOnLooks x = e.x();
        for (int s = 0; s < 7; s++) {
            x.person(0, 0, 0, 0, 0, s);
            x.show(s, s);
            if (s == 1) {
                x.image();
            }
        }
        x.put(1, 35);
        e.is(2, x.restore());
        for (int s = 0; s < 8; s++) {
            e.is(s < 2 ? s : -1, x.holds(s));
        }
        e.is(1, x.says(1, 0));
        e.is(-3, x.says(2, 0));
        e.is(2, x.person(0, 0, 0, 0, 0, 0));
        e.is(-1, x.holds(2));
    }

    static void promise37ShelvesWhenNobodyIsLeft(Edge e) {
        TaxOnLooks x = e.x();
        x.image();
        x.person(0, 0, 0, 0, 0, 0);
        x.show(0, 0);
        x.show(7, 0);
        e.is(0, x.restore());
        e.is(-1, x.holds(0));
        e.is(-1, x.holds(7));
        e.is(-3, x.set(0, 0, 0));
        e.is(-1, x.put(0, 0));
    }

    static void promise37RowsStay(Edge e) {
        TaxOnLooks x = e.x();
        Due.tell(x, 0, 7, 8);
        x.image();
        x.set(0, 0, 9);
        x.row(1, 3, 1);
        x.set(1, 0, MOST + 1L);
        e.is(0, x.restore());
        e.is(102, x.holds(0));
        e.is(9, x.element(0, 0));
        e.is(8, x.element(0, 1));
        e.is(103, x.holds(1));
        e.is(MOST + 1L, x.element(1, 0));
    }

    static void promise37RefusalsFaultAndTraceStay(Edge e) {
        TaxOnLooks x = e.x();
        x.image();
        kinds(x);
        x.act(6, 2, 0);
        Due.write(x, 0, "wal");
        x.town(0);
        x.put(7, 0);
        e.is(0, x.restore());
        e.is(50, x.trace(0));
        e.is(10, x.status(10));
        e.is(3, x.fault());
        e.is(1, x.status(16));
        e.is(1, x.status(11));
    }

    static void promise38NoSuchWhat(Edge e) {
        for (int what : new int[] {LEAST, -1, 18, 19, MOST}) {
            e.asked(-1, x -> x.status(what));
        }
    }

    static void promise38AllThatIsTold(Edge e) {
        e.given(Promises34To38EdgesTest::first);
        int[] told = {2, 2, 1, 4, 3, 1, 1, 8, 60, 99, 0, 0, 0, 0, 0, 0, 0, 0};
        for (int what = 0; what < told.length; what++) {
            int of = what;
            e.asked(told[what], x -> x.status(of));
        }
    }

    static void promise38LeastAndMost(Edge e) {
        TaxOnLooks x = e.x();
        e.is(0, x.status(8));
        for (int i = 0; i < 7; i++) {
            x.person(0, 0, 0, 0, 9999, 35);
        }
        e.is(7, x.status(0));
        e.is(69993, x.status(8));
        for (int square = 0; square < 36; square++) {
            x.build(square, 0, true);
            x.build(square, 1, true);
        }
        e.is(35, x.status(1));
        e.is(36, x.status(2));
    }

    static void promise38BodiesOfTheLatestAct(Edge e) {
        TaxOnLooks x = e.x();
        kinds(x);
        e.is(0, x.status(10));
        x.act(6, 2, 0);
        e.is(10, x.status(10));
        x.act(0, 0, 0);
        e.is(1, x.status(10));
        x.act(0, 3, 0);
        e.is(0, x.status(10));
    }

    static void promise38RefusalsByNumbers(Edge e) {
        TaxOnLooks x = e.x();
        kinds(x);
        x.show(1, 0);
        x.row(2, 0, 41);
        x.put(9, 0);
        x.walk(9, 0, 0);
        x.judge(9, 0);
        x.set(1, 0, 0);
        x.judge(1, 0);
        x.set(0, 0, 0);
        x.judge(0, 0);
        x.row(0, 0, -1);
        x.judge(2, -1);
        x.set(2, 41, 0);
        x.walk(0, 0, 3);
        x.sacks(0, 2);
        x.judge(2, 42);
        x.hours(0);
        x.walk(0, 36, 0);
        x.sacks(4, 0);
        x.judge(2, 41);
        x.row(0, 0, 161);
        x.person(0, 0, 0, 0, 0, 0);
        int[] counted = {3, 2, 2, 2, 4, 4, 2};
        for (int i = 0; i < 7; i++) {
            e.is(counted[i], x.status(11 + i));
        }
    }

    static void promise38AnswersOfNoneAreNoRefusals(Edge e) {
        e.given("person 0 0 0 0 0 0;wall 1;wall 6");
        e.asked(-1, x -> x.walk(0, 35, 0));
        e.asked(-1, x -> x.sacks(2, 0));
        e.asked(-1, x -> x.holds(0));
        e.asked(-1, x -> x.holds(8));
        e.asked(-1, x -> x.trace(0));
        e.asked(-1, x -> x.fault());
        e.asked(-1, x -> x.status(18));
        e.asked(0, x -> x.element(8, 0));
        e.asked(0, x -> x.act(1, 0, 0));
    }
}
