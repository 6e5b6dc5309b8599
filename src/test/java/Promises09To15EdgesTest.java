/** The edges that the document names of promises 9 to 15: people and squares, told and asked. */
final class Promises09To15EdgesTest {
    private static final int LEAST = Edge.LEAST;
    private static final int MOST = Edge.MOST;

    public static void main(String[] args) throws IllegalAccessException {
        Edges.run(Promises09To15EdgesTest.class, 9, 15);
    }

    /** A PERSON at 3, a wall at 9 with a balcony on it, a balcony at 4. */
    private static void one(TaxOnLooks x) {
        x.person(0, 1, 2, 3, 4, 3);
        x.build(9, 0, true);
        x.build(9, 1, true);
        x.build(4, 1, true);
    }

    private static void people(TaxOnLooks x, int n) {
        for (int i = 0; i < n; i++) {
            x.person(i % 7, 0, 0, 0, 0, 35);
        }
    }

    static void promise09NoSuchKind(Edge e) {
        e.refused(-1, x -> x.person(-1, 0, 0, 0, 0, 0));
        e.refused(-1, x -> x.person(7, 0, 0, 0, 0, 0));
        e.refused(-1, x -> x.person(LEAST, 0, 0, 0, 0, 0));
        e.refused(-1, x -> x.person(MOST, 0, 0, 0, 0, 0));
        for (int kind = 0; kind < 7; kind++) {
            TaxOnLooks x = e.x();
            e.is(0, x.person(kind, 0, 0, 0, 0, 0));
            e.is(kind, x.personOf(0, 0));
        }
    }

    static void promise09NumberThatMayNotBe(Edge e) {
        int[] most = {9, 20, 9, 9999, 35};
        for (int place = 0; place < most.length; place++) {
            for (int v : new int[] {LEAST, -1, most[place] + 1, MOST}) {
                int[] low = {0, 0, 0, 0, 0};
                int[] high = most.clone();
                low[place] = v;
                high[place] = v;
                e.refused(-6, x -> x.person(0, low[0], low[1], low[2], low[3], low[4]));
                e.refused(-6, x -> x.person(6, high[0], high[1], high[2], high[3], high[4]));
            }
        }
    }

    static void promise09LeastAndMostOfEachNumber(Edge e) {
        TaxOnLooks x = e.x();
        e.is(0, x.person(0, 0, 0, 0, 0, 0));
        e.is(1, x.person(6, 9, 20, 9, 9999, 35));
        int[] least = {0, 0, 0, 0, 0, 0, 0};
        int[] most = {6, 9, 20, 9, 9999, 35, 0};
        for (int what = 0; what < 7; what++) {
            e.is(least[what], x.personOf(0, what));
            e.is(most[what], x.personOf(1, what));
        }
    }

    static void promise09AtAWall(Edge e) {
        e.given(Promises09To15EdgesTest::one);
        e.refused(-6, x -> x.person(0, 0, 0, 0, 0, 9));
        e.answers(1, x -> x.person(0, 0, 0, 0, 0, 4));
        TaxOnLooks x = e.x();
        x.build(9, 0, false);
        e.is(1, x.person(0, 0, 0, 0, 0, 9));
    }

    static void promise09SeveralAtOneSquare(Edge e) {
        e.given(Promises09To15EdgesTest::one);
        TaxOnLooks x = e.x();
        e.is(1, x.person(0, 0, 0, 0, 0, 3));
        e.is(3, x.squareOf(3, 2));
    }

    static void promise09SevenAtMost(Edge e) {
        TaxOnLooks x = e.x();
        for (int i = 0; i < 7; i++) {
            e.is(i, x.person(0, 0, 0, 0, 0, 0));
        }
        e.given(y -> people(y, 7));
        e.refused(-7, y -> y.person(0, 0, 0, 0, 0, 0));
        e.answers(7, y -> y.status(0));
    }

    static void promise09FirstRefusalThatFits(Edge e) {
        e.given(x -> people(x, 7));
        e.refused(-1, x -> x.person(7, 10, 0, 0, 0, 0));
        e.refused(-1, x -> x.person(-1, 0, 0, 0, 0, 0));
        e.refused(-6, x -> x.person(0, 10, 0, 0, 0, 0));
        e.refused(-6, x -> x.person(0, 0, 0, 0, 0, 36));
    }

    static void promise09NotInASackAtFirst(Edge e) {
        TaxOnLooks x = e.x();
        x.image();
        x.person(0, 0, 0, 0, 0, 0);
        x.sack(0, true);
        x.restore();
        e.is(0, x.person(0, 0, 5, 0, 0, 0));
        e.is(0, x.personOf(0, 6));
        e.is(5, x.personOf(0, 7));
    }

    static void promise10NoSuchSquareOrWhat(Edge e) {
        for (int square : new int[] {LEAST, -1, 36, MOST}) {
            for (int what = 0; what < 2; what++) {
                int of = what;
                e.refused(-6, x -> x.build(square, of, true));
                e.refused(-6, x -> x.build(square, of, false));
            }
        }
        for (int what : new int[] {LEAST, -1, 2, MOST}) {
            e.refused(-6, x -> x.build(0, what, true));
            e.refused(-6, x -> x.build(0, what, false));
        }
    }

    static void promise10WallWhereSomebodyIs(Edge e) {
        e.given(Promises09To15EdgesTest::one);
        e.refused(-6, x -> x.build(3, 0, true));
        e.asked(0, x -> x.build(3, 0, false));
        e.answers(0, x -> x.build(3, 1, true));
        TaxOnLooks x = e.x();
        x.put(0, 2);
        e.is(0, x.build(3, 0, true));
        e.is(-6, x.build(2, 0, true));
    }

    static void promise10WhetherItWas(Edge e) {
        for (int square = 0; square < 36; square += 35) {
            for (int what = 0; what < 2; what++) {
                TaxOnLooks x = e.x();
                int of = what;
                int at = square;
                e.asked(0, y -> y.build(at, of, false));
                e.is(0, x.build(square, what, true));
                e.is(1, x.squareOf(square, what));
                e.is(1, x.build(square, what, true));
                e.is(1, x.build(square, what, false));
                e.is(0, x.squareOf(square, what));
                e.is(0, x.build(square, what, false));
            }
        }
    }

    static void promise10WallWithABalcony(Edge e) {
        e.given(Promises09To15EdgesTest::one);
        TaxOnLooks x = e.x();
        e.is(0, x.build(4, 0, true));
        e.is(1, x.squareOf(4, 1));
        e.is(1, x.build(9, 0, false));
        e.is(1, x.squareOf(9, 1));
        e.is(1, x.build(4, 1, false));
        e.is(1, x.squareOf(4, 0));
    }

    static void promise10EverySquare(Edge e) {
        TaxOnLooks x = e.x();
        for (int square = 0; square < 36; square++) {
            e.is(0, x.build(square, 0, true));
            e.is(0, x.build(square, 1, true));
        }
        e.is(36, x.status(1));
        e.is(36, x.status(2));
        e.is(-6, x.person(0, 0, 0, 0, 0, 0));
    }

    static void promise11NoSuchPerson(Edge e) {
        e.refused(-1, x -> x.put(0, 0));
        e.given(Promises09To15EdgesTest::one);
        for (int who : new int[] {LEAST, -1, 1, MOST}) {
            e.refused(-1, x -> x.put(who, 0));
        }
    }

    static void promise11NoSuchSquareOrAWall(Edge e) {
        e.given(Promises09To15EdgesTest::one);
        for (int square : new int[] {LEAST, -1, 36, MOST, 9}) {
            e.refused(-6, x -> x.put(0, square));
        }
    }

    static void promise11FirstRefusalThatFits(Edge e) {
        e.given(Promises09To15EdgesTest::one);
        e.refused(-1, x -> x.put(1, 36));
        e.refused(-1, x -> x.put(-1, 9));
    }

    static void promise11WhereHeWas(Edge e) {
        e.given(Promises09To15EdgesTest::one);
        TaxOnLooks x = e.x();
        e.asked(3, y -> y.put(0, 3));
        e.is(3, x.put(0, 0));
        e.is(0, x.put(0, 35));
        e.is(35, x.put(0, 4));
        e.is(4, x.personOf(0, 5));
        x.person(0, 0, 0, 0, 0, 0);
        e.is(0, x.put(1, 4));
        e.is(3, x.squareOf(4, 2));
    }

    static void promise12NoSuchPerson(Edge e) {
        e.refused(-1, x -> x.sack(0, true));
        e.given(Promises09To15EdgesTest::one);
        for (int who : new int[] {LEAST, -1, 1, MOST}) {
            e.refused(-1, x -> x.sack(who, true));
            e.refused(-1, x -> x.sack(who, false));
        }
    }

    static void promise12WhetherHeWas(Edge e) {
        e.given(x -> people(x, 7));
        for (int who = 0; who < 7; who += 6) {
            int of = who;
            e.asked(0, x -> x.sack(of, false));
            TaxOnLooks x = e.x();
            e.is(0, x.sack(who, true));
            e.is(1, x.personOf(who, 6));
            e.is(1, x.sack(who, true));
            e.is(1, x.sack(who, false));
            e.is(0, x.personOf(who, 6));
            e.is(0, x.personOf(1, 6));
        }
    }

    static void promise13NumberThatMayNotBe(Edge e) {
        int[][] wrong = {{LEAST, -1, 0, 10, MOST}, {LEAST, -1, 0, 6, MOST}, {LEAST, -1, 2, MOST}};
        for (int what = 0; what < 3; what++) {
            int of = what;
            for (int v : wrong[what]) {
                e.refused(-6, x -> x.ask(of, v));
            }
        }
    }

    static void promise13NoSuchWhat(Edge e) {
        for (int what : new int[] {LEAST, -1, 3, MOST}) {
            e.refused(-6, x -> x.ask(what, 0));
            e.refused(-6, x -> x.ask(what, 1));
        }
    }

    static void promise13LeastAndMost(Edge e) {
        int[][] ends = {{1, 9}, {1, 5}, {0, 1}};
        int[] first = {1, 5, 0};
        for (int what = 0; what < 3; what++) {
            int of = what;
            TaxOnLooks x = e.x();
            e.is(first[what], x.ask(what, ends[what][0]));
            e.is(ends[what][0], x.ask(what, ends[what][1]));
            e.is(ends[what][1], x.status(3 + what));
            e.is(ends[what][1], x.ask(what, ends[what][0]));
            e.is(ends[what][0], x.status(3 + what));
            e.asked(first[what], y -> y.ask(of, first[of]));
        }
    }

    static void promise14NoSuchPersonOrWhat(Edge e) {
        e.refused(-5, x -> x.personOf(0, 0));
        e.given(Promises09To15EdgesTest::one);
        for (int who : new int[] {LEAST, -1, 1, 7, MOST}) {
            e.refused(-5, x -> x.personOf(who, 0));
        }
        for (int what : new int[] {LEAST, -1, 8, MOST}) {
            e.refused(-5, x -> x.personOf(0, what));
        }
        e.refused(-5, x -> x.personOf(-1, 8));
    }

    static void promise14AllThatIsTold(Edge e) {
        e.given(Promises09To15EdgesTest::one);
        int[] told = {0, 1, 2, 3, 4, 3, 0, 2};
        for (int what = 0; what < told.length; what++) {
            int of = what;
            e.asked(told[what], x -> x.personOf(0, of));
        }
    }

    private static void shows(Edge e, int[] one, int sun, int rain) {
        TaxOnLooks x = e.x();
        x.person(one[0], one[1], one[2], one[3], 0, 0);
        e.is(sun, x.personOf(0, 7));
        x.ask(2, 1);
        e.is(rain, x.personOf(0, 7));
        x.sack(0, true);
        e.is(0, x.personOf(0, 7));
        x.ask(2, 0);
        e.is(0, x.personOf(0, 7));
        x.sack(0, false);
        e.is(sun, x.personOf(0, 7));
    }

    static void promise14ShowLeastAndMost(Edge e) {
        for (int kind = 0; kind < 7; kind++) {
            shows(e, new int[] {kind, 0, 0, 9}, 0, 0);
        }
        shows(e, new int[] {0, 9, 20, 9}, 20, 10);
        shows(e, new int[] {1, 9, 20, 9}, 40, 20);
        shows(e, new int[] {2, 9, 20, 9}, 49, 24);
        shows(e, new int[] {2, 9, 0, 9}, 9, 4);
        shows(e, new int[] {3, 9, 20, 9}, 20, 10);
        shows(e, new int[] {4, 9, 20, 9}, 20, 10);
        shows(e, new int[] {5, 9, 20, 9}, 20, 10);
        shows(e, new int[] {6, 9, 20, 9}, 11, 5);
        shows(e, new int[] {6, 9, 20, 0}, 20, 10);
    }

    static void promise14ShowOfTheShamed0AtLeast(Edge e) {
        shows(e, new int[] {6, 0, 6, 5}, 1, 0);
        shows(e, new int[] {6, 0, 5, 5}, 0, 0);
        shows(e, new int[] {6, 0, 4, 5}, 0, 0);
        shows(e, new int[] {6, 0, 0, 9}, 0, 0);
        shows(e, new int[] {4, 0, 4, 5}, 4, 2);
    }

    static void promise14HalfIsCut(Edge e) {
        shows(e, new int[] {0, 0, 1, 0}, 1, 0);
        shows(e, new int[] {0, 0, 2, 0}, 2, 1);
        shows(e, new int[] {1, 0, 1, 0}, 2, 1);
        shows(e, new int[] {2, 1, 1, 0}, 3, 1);
        shows(e, new int[] {6, 0, 8, 5}, 3, 1);
    }

    static void promise15NoSuchSquareOrWhat(Edge e) {
        e.given(Promises09To15EdgesTest::one);
        for (int square : new int[] {LEAST, -1, 36, MOST}) {
            for (int what = 0; what < 3; what++) {
                int of = what;
                e.refused(-5, x -> x.squareOf(square, of));
            }
        }
        for (int what : new int[] {LEAST, -1, 3, MOST}) {
            e.refused(-5, x -> x.squareOf(9, what));
        }
        e.refused(-5, x -> x.squareOf(36, 3));
    }

    static void promise15WallBalconyAndPeople(Edge e) {
        e.given(Promises09To15EdgesTest::one);
        int[][] told = {{9, 1, 1, 0}, {4, 0, 1, 0}, {3, 0, 0, 1}, {0, 0, 0, 0}, {35, 0, 0, 0}};
        for (int[] of : told) {
            for (int what = 0; what < 3; what++) {
                int w = what;
                e.asked(of[1 + what], x -> x.squareOf(of[0], w));
            }
        }
    }

    static void promise15NobodyAndAllSeven(Edge e) {
        e.given(x -> people(x, 7));
        e.asked(127, x -> x.squareOf(35, 2));
        e.asked(0, x -> x.squareOf(0, 2));
        TaxOnLooks x = e.x();
        x.put(6, 0);
        e.is(64, x.squareOf(0, 2));
        e.is(63, x.squareOf(35, 2));
    }
}
