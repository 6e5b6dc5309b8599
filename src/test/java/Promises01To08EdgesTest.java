/** The edges that the document names of promises 1 to 8: a new object and the shelves. */
final class Promises01To08EdgesTest {
    private static final int LEAST = Edge.LEAST;
    private static final int MOST = Edge.MOST;

    public static void main(String[] args) throws IllegalAccessException {
        Edges.run(Promises01To08EdgesTest.class, 1, 8);
    }

    /** Shelf 0 five ints, 1 three ints, 2 nothing, 3 three longs, 4 one of the people, 5 no ints. */
    private static void shelves(TaxOnLooks x) {
        Due.tell(x, 0, 1, 2, 3, 4, 5);
        Due.tell(x, 1, 11, 12, 13);
        x.row(3, 3, 3);
        x.person(0, 0, 0, 0, 0, 0);
        x.show(4, 0);
        x.row(5, 2, 0);
    }

    private static void is(Edge e, TaxOnLooks x, int s, long... elements) {
        for (int i = 0; i < elements.length; i++) {
            e.is(elements[i], x.element(s, i));
        }
    }

    static void promise01Nobody(Edge e) {
        e.asked(0, x -> x.status(0));
        e.refused(-5, x -> x.personOf(0, 0));
        e.refused(-1, x -> x.put(0, 0));
        for (int square = 0; square < 36; square++) {
            int at = square;
            e.answers(0, x -> x.squareOf(at, 2));
        }
    }

    static void promise01NoWallsAndNoBalconies(Edge e) {
        e.asked(0, x -> x.status(1));
        e.asked(0, x -> x.status(2));
        for (int square = 0; square < 36; square++) {
            int at = square;
            e.answers(0, x -> x.squareOf(at, 0));
            e.answers(0, x -> x.squareOf(at, 1));
        }
    }

    static void promise01WhatIsAtFirst(Edge e) {
        int[] first = {0, 0, 0, 1, 5, 0, 0, 0, 0, 1, 0, 0, 0, 0, 0, 0, 0, 0};
        for (int what = 0; what < first.length; what++) {
            int w = what;
            e.answers(first[w], x -> x.status(w));
        }
    }

    static void promise01ShelvesHoldNothing(Edge e) {
        for (int s = 0; s < 8; s++) {
            int shelf = s;
            e.asked(-1, x -> x.holds(shelf));
            e.asked(0, x -> x.element(shelf, 0));
        }
    }

    static void promise01NoFaultNoTraceNoImage(Edge e) {
        e.asked(-1, x -> x.fault());
        e.asked(-1, x -> x.trace(0));
        e.refused(-6, x -> x.restore());
    }

    static void promise01ObjectsShareNothing(Edge e) {
        TaxOnLooks full = e.x();
        shelves(full);
        full.build(3, 0, true);
        full.build(3, 1, true);
        full.ask(0, 9);
        full.seed(7);
        full.act(0, 2, 1);
        full.image();
        full.town(0);
        e.is(0, e.x().status(0));
        promise01WhatIsAtFirst(e);
        promise01ShelvesHoldNothing(e);
        promise01NoWallsAndNoBalconies(e);
        promise01NoFaultNoTraceNoImage(e);
    }

    static void promise02NoSuchShelf(Edge e) {
        e.refused(-1, x -> x.row(-1, 0, 1));
        e.refused(-1, x -> x.row(8, 0, 1));
        e.refused(-1, x -> x.row(LEAST, 0, 1));
        e.refused(-1, x -> x.row(MOST, 0, 1));
        e.answers(1, x -> x.row(0, 0, 1));
        e.answers(1, x -> x.row(7, 0, 1));
    }

    static void promise02SizeBelow0(Edge e) {
        e.refused(-4, x -> x.row(0, 0, -1));
        e.refused(-4, x -> x.row(0, 3, LEAST));
    }

    static void promise02NoSuchSort(Edge e) {
        e.refused(-6, x -> x.row(0, -1, 1));
        e.refused(-6, x -> x.row(0, 4, 1));
        e.refused(-6, x -> x.row(0, LEAST, 1));
        e.refused(-6, x -> x.row(0, MOST, 1));
        for (int sort = 0; sort < 4; sort++) {
            TaxOnLooks x = e.x();
            e.is(1, x.row(0, sort, 1));
            e.is(100 + sort, x.holds(0));
        }
    }

    static void promise02SizeAbove160(Edge e) {
        e.refused(-7, x -> x.row(0, 0, 161));
        e.refused(-7, x -> x.row(0, 3, MOST));
    }

    static void promise02EmptyRow(Edge e) {
        e.given(x -> x.row(0, 2, 0));
        e.answers(1, x -> x.row(0, 2, 0));
        e.asked(102, x -> x.holds(0));
        e.asked(0, x -> x.element(0, 0));
        e.refused(-5, x -> x.set(0, 0, 1));
    }

    static void promise02FullRow(Edge e) {
        for (int sort = 0; sort < 4; sort++) {
            int of = sort;
            e.given(x -> x.row(7, of, 160));
            e.answers(1, x -> x.row(7, of, 160));
            e.answers(1, x -> x.set(7, 159, 9));
            e.refused(-5, x -> x.set(7, 160, 9));
        }
    }

    static void promise02ElementsAre0AtFirst(Edge e) {
        TaxOnLooks x = e.x();
        x.row(0, 3, 160);
        x.set(0, 0, -1);
        x.set(0, 159, 5);
        x.row(0, 3, 1);
        is(e, x, 0, 0, 0);
        x.row(0, 3, 160);
        e.is(0, x.element(0, 0));
        e.is(0, x.element(0, 159));
    }

    static void promise02NewRowOverWhatTheShelfHeld(Edge e) {
        e.given(Promises01To08EdgesTest::shelves);
        TaxOnLooks x = e.x();
        e.is(1, x.row(4, 1, 2));
        e.is(101, x.holds(4));
        e.is(1, x.row(0, 0, 2));
        e.is(100, x.holds(0));
        is(e, x, 0, 0, 0, 0);
        e.is(-5, x.set(0, 2, 1));
    }

    static void promise02FirstRefusalThatFits(Edge e) {
        e.given(Promises01To08EdgesTest::shelves);
        e.refused(-1, x -> x.row(8, 0, -1));
        e.refused(-1, x -> x.row(8, 4, 1));
        e.refused(-1, x -> x.row(-1, 0, 161));
        e.refused(-4, x -> x.row(0, 4, -1));
        e.refused(-4, x -> x.row(4, -1, -1));
        e.refused(-6, x -> x.row(0, 4, 161));
        e.refused(-7, x -> x.row(0, 0, 161));
    }

    static void promise03KeepsTheLowestBits(Edge e) {
        long[][] bytes = {{127, 127}, {128, -128}, {255, -1}, {256, 0}, {-128, -128}, {-129, 127}};
        long[][] shorts = {{32767, 32767}, {32768, -32768}, {65535, -1}, {65536, 0}, {-32769, 32767}};
        long[][] ints = {{MOST, MOST}, {MOST + 1L, LEAST}, {(1L << 32) - 1, -1}, {1L << 32, 0},
            {LEAST - 1L, MOST}};
        long[][] longs = {{Long.MAX_VALUE, Long.MAX_VALUE}, {Long.MIN_VALUE, Long.MIN_VALUE},
            {1L << 32, 1L << 32}, {-1, -1}};
        long[][][] sorts = {bytes, shorts, ints, longs};
        for (int sort = 0; sort < 4; sort++) {
            TaxOnLooks x = e.x();
            x.row(0, sort, 3);
            for (long[] v : sorts[sort]) {
                e.is(1, x.set(0, 1, v[0]));
                is(e, x, 0, 0, v[1], 0);
            }
        }
    }

    static void promise03ElementThatIsntThere(Edge e) {
        e.given(Promises01To08EdgesTest::shelves);
        e.refused(-5, x -> x.set(0, -1, 9));
        e.refused(-5, x -> x.set(0, 5, 9));
        e.refused(-5, x -> x.set(0, LEAST, 9));
        e.refused(-5, x -> x.set(0, MOST, 9));
        e.refused(-5, x -> x.set(5, 0, 9));
        e.answers(1, x -> x.set(0, 0, 9));
        e.answers(1, x -> x.set(0, 4, 9));
    }

    static void promise03NoRow(Edge e) {
        e.given(Promises01To08EdgesTest::shelves);
        e.refused(-1, x -> x.set(-1, 0, 9));
        e.refused(-1, x -> x.set(8, 0, 9));
        e.refused(-2, x -> x.set(4, 0, 9));
        e.refused(-3, x -> x.set(2, 0, 9));
    }

    static void promise03FirstRefusalThatFits(Edge e) {
        e.given(Promises01To08EdgesTest::shelves);
        e.refused(-1, x -> x.set(8, -1, 9));
        e.refused(-2, x -> x.set(4, -1, 9));
        e.refused(-3, x -> x.set(2, -1, 9));
    }

    static void promise04NoSuchShelf(Edge e) {
        e.given(Promises01To08EdgesTest::shelves);
        e.refused(-1, x -> x.copy(-1, 1, 0, 0, 1));
        e.refused(-1, x -> x.copy(8, 1, 0, 0, 1));
        e.refused(-1, x -> x.copy(0, -1, 0, 0, 1));
        e.refused(-1, x -> x.copy(0, 8, 0, 0, 1));
    }

    static void promise04PersonInEither(Edge e) {
        e.given(Promises01To08EdgesTest::shelves);
        e.refused(-2, x -> x.copy(4, 0, 0, 0, 1));
        e.refused(-2, x -> x.copy(0, 4, 0, 0, 1));
        e.refused(-2, x -> x.copy(4, 4, 0, 0, 1));
        e.refused(-2, x -> x.copy(4, 2, 0, 0, 1));
        e.refused(-2, x -> x.copy(2, 4, 0, 0, 1));
    }

    static void promise04RowsOfTwoSorts(Edge e) {
        for (int one = 0; one < 4; one++) {
            for (int other = 0; other < 4; other++) {
                int p = one;
                int q = other;
                e.given(x -> {
                    x.row(0, p, 2);
                    x.row(1, q, 2);
                });
                if (p == q) {
                    e.answers(1, x -> x.copy(0, 1, 0, 0, 2));
                } else {
                    e.refused(-2, x -> x.copy(0, 1, 0, 0, 2));
                    e.refused(-2, x -> x.copy(0, 1, 0, 0, 0));
                }
            }
        }
    }

    static void promise04NothingInEither(Edge e) {
        e.given(Promises01To08EdgesTest::shelves);
        e.refused(-3, x -> x.copy(2, 0, 0, 0, 1));
        e.refused(-3, x -> x.copy(0, 2, 0, 0, 1));
        e.refused(-3, x -> x.copy(2, 2, 0, 0, 0));
        e.refused(-3, x -> x.copy(2, 6, 0, 0, 0));
        e.refused(-3, x -> x.copy(3, 2, 0, 0, 1));
    }

    static void promise04SizeBelow0(Edge e) {
        e.given(Promises01To08EdgesTest::shelves);
        e.refused(-4, x -> x.copy(0, 1, 0, 0, -1));
        e.refused(-4, x -> x.copy(0, 1, 2, 2, -2));
        e.refused(-4, x -> x.copy(0, 1, 0, 0, LEAST));
    }

    static void promise04EndThatIsntThere(Edge e) {
        e.given(Promises01To08EdgesTest::shelves);
        e.refused(-5, x -> x.copy(0, 1, -1, 0, 1));
        e.refused(-5, x -> x.copy(0, 1, 0, -1, 1));
        e.refused(-5, x -> x.copy(0, 1, -1, 0, 0));
        e.refused(-5, x -> x.copy(0, 1, 0, -1, 0));
        e.refused(-5, x -> x.copy(0, 1, 3, 0, 3));
        e.refused(-5, x -> x.copy(0, 1, 0, 1, 3));
        e.refused(-5, x -> x.copy(0, 1, 0, 0, 4));
        e.refused(-5, x -> x.copy(1, 0, 0, 0, 4));
        e.refused(-5, x -> x.copy(0, 1, 6, 0, 0));
        e.refused(-5, x -> x.copy(0, 1, 0, 4, 0));
        e.refused(-5, x -> x.copy(5, 0, 0, 0, 1));
        e.refused(-5, x -> x.copy(0, 5, 0, 0, 1));
    }

    static void promise04EndsDontWrapAround(Edge e) {
        e.given(Promises01To08EdgesTest::shelves);
        e.refused(-5, x -> x.copy(0, 1, MOST, 0, 1));
        e.refused(-5, x -> x.copy(0, 1, 0, MOST, 1));
        e.refused(-5, x -> x.copy(0, 1, 1, 1, MOST));
        e.refused(-5, x -> x.copy(0, 1, MOST, MOST, MOST));
        e.refused(-5, x -> x.copy(0, 1, LEAST, 0, 1));
    }

    static void promise04NoneOfThem(Edge e) {
        e.given(Promises01To08EdgesTest::shelves);
        e.asked(1, x -> x.copy(0, 1, 0, 0, 0));
        e.asked(1, x -> x.copy(0, 1, 5, 3, 0));
        e.asked(1, x -> x.copy(5, 5, 0, 0, 0));
    }

    static void promise04UpToTheEnds(Edge e) {
        e.given(Promises01To08EdgesTest::shelves);
        TaxOnLooks x = e.x();
        e.is(1, x.copy(0, 1, 3, 1, 2));
        is(e, x, 1, 11, 4, 5);
        e.is(1, x.copy(1, 0, 0, 0, 3));
        is(e, x, 0, 11, 4, 5, 4, 5);
        x.row(0, 0, 160);
        x.set(0, 0, 7);
        x.set(0, 159, 8);
        x.row(1, 0, 160);
        e.is(1, x.copy(0, 1, 0, 0, 160));
        e.is(7, x.element(1, 0));
        e.is(8, x.element(1, 159));
    }

    static void promise04AsTheyWereAhead(Edge e) {
        e.given(Promises01To08EdgesTest::shelves);
        TaxOnLooks x = e.x();
        e.is(1, x.copy(0, 0, 0, 1, 4));
        is(e, x, 0, 1, 1, 2, 3, 4);
        TaxOnLooks y = e.x();
        e.is(1, y.copy(0, 0, 1, 0, 4));
        is(e, y, 0, 2, 3, 4, 5, 5);
        e.asked(1, z -> z.copy(0, 0, 0, 0, 5));
    }

    static void promise04FirstRefusalThatFits(Edge e) {
        e.given(Promises01To08EdgesTest::shelves);
        e.refused(-1, x -> x.copy(8, 4, 0, 0, 1));
        e.refused(-1, x -> x.copy(4, 8, 0, 0, 1));
        e.refused(-1, x -> x.copy(2, -1, -1, -1, -1));
        e.refused(-2, x -> x.copy(4, 2, 0, 0, -1));
        e.refused(-2, x -> x.copy(2, 4, -1, 0, -1));
        e.refused(-2, x -> x.copy(0, 3, 0, 0, -1));
        e.refused(-2, x -> x.copy(0, 3, 9, 9, 9));
        e.refused(-3, x -> x.copy(0, 2, 0, 0, -1));
        e.refused(-3, x -> x.copy(2, 0, -1, -1, 1));
        e.refused(-4, x -> x.copy(0, 1, -1, -1, -1));
    }

    static void promise05NoneThere(Edge e) {
        e.given(Promises01To08EdgesTest::shelves);
        e.asked(0, x -> x.element(-1, 0));
        e.asked(0, x -> x.element(8, 0));
        e.asked(0, x -> x.element(LEAST, 0));
        e.asked(0, x -> x.element(MOST, 0));
        e.asked(0, x -> x.element(2, 0));
        e.asked(0, x -> x.element(4, 0));
        e.asked(0, x -> x.element(5, 0));
        e.asked(0, x -> x.element(0, -1));
        e.asked(0, x -> x.element(0, 5));
        e.asked(0, x -> x.element(0, LEAST));
        e.asked(0, x -> x.element(0, MOST));
        e.asked(1, x -> x.element(0, 0));
        e.asked(5, x -> x.element(0, 4));
    }

    static void promise05NoneOfAFormerRow(Edge e) {
        TaxOnLooks x = e.x();
        shelves(x);
        x.row(0, 2, 2);
        x.show(1, 0);
        e.is(0, x.element(0, 3));
        e.is(0, x.element(1, 0));
        x.show(1, -1);
        e.is(0, x.element(1, 0));
        x.show(3, -1);
        e.is(0, x.element(3, 0));
        Due.tell(x, 0, 7);
        x.show(0, -1);
        e.is(0, x.element(0, 0));
        e.is(0, x.status(15));
    }

    static void promise06NoSuchShelf(Edge e) {
        e.given(Promises01To08EdgesTest::shelves);
        e.refused(-1, x -> x.show(-1, 0));
        e.refused(-1, x -> x.show(8, 0));
        e.refused(-1, x -> x.show(-1, -1));
        e.refused(-1, x -> x.show(8, -1));
    }

    static void promise06NoSuchPerson(Edge e) {
        e.refused(-1, x -> x.show(0, 0));
        e.given(Promises01To08EdgesTest::shelves);
        e.refused(-1, x -> x.show(0, 1));
        e.refused(-1, x -> x.show(0, -2));
        e.refused(-1, x -> x.show(4, LEAST));
        e.refused(-1, x -> x.show(4, MOST));
        e.given(x -> people(x, 7));
        e.answers(1, x -> x.show(0, 0));
        e.answers(1, x -> x.show(7, 6));
        e.refused(-1, x -> x.show(0, 7));
    }

    static void promise06NobodyIsNothing(Edge e) {
        e.given(Promises01To08EdgesTest::shelves);
        e.asked(0, x -> x.show(2, -1));
        for (int s = 0; s < 6; s++) {
            TaxOnLooks x = e.x();
            e.is(0, x.show(s, -1));
            e.is(-1, x.holds(s));
        }
    }

    static void promise06OverWhatTheShelfHeld(Edge e) {
        e.given(x -> {
            shelves(x);
            people(x, 1);
        });
        TaxOnLooks x = e.x();
        e.is(1, x.show(0, 1));
        e.is(1, x.holds(0));
        e.is(1, x.show(4, 1));
        e.is(1, x.holds(4));
        e.is(1, x.show(2, 0));
        e.is(0, x.holds(2));
        e.is(1, x.show(3, 0));
        e.is(0, x.holds(3));
    }

    private static void people(TaxOnLooks x, int n) {
        for (int i = 0; i < n; i++) {
            x.person(0, 0, 0, 0, 0, i);
        }
    }

    static void promise07NothingOrNoSuchShelf(Edge e) {
        e.given(Promises01To08EdgesTest::shelves);
        e.asked(-1, x -> x.holds(2));
        e.asked(-1, x -> x.holds(-1));
        e.asked(-1, x -> x.holds(8));
        e.asked(-1, x -> x.holds(LEAST));
        e.asked(-1, x -> x.holds(MOST));
    }

    static void promise07FirstAndLastOfEach(Edge e) {
        e.given(x -> {
            people(x, 7);
            x.show(0, 0);
            x.show(7, 6);
            x.row(1, 0, 0);
            x.row(2, 1, 160);
            x.row(3, 2, 1);
            x.row(4, 3, 0);
        });
        e.asked(0, x -> x.holds(0));
        e.asked(6, x -> x.holds(7));
        for (int sort = 0; sort < 4; sort++) {
            int of = sort;
            e.asked(100 + sort, x -> x.holds(1 + of));
        }
    }

    /** Seven people, one of each kind, by kinds; shelf 7 holds nothing. */
    private static void kinds(TaxOnLooks x) {
        for (int kind = 0; kind < 7; kind++) {
            x.person(kind, 9, 15, 7, 9999 - kind, 35 - kind);
            x.show(kind, kind);
        }
    }

    static void promise08NoSuchShelfOrKind(Edge e) {
        e.given(Promises01To08EdgesTest::kinds);
        e.refused(-1, x -> x.says(-1, 0));
        e.refused(-1, x -> x.says(8, 0));
        e.refused(-1, x -> x.says(0, -1));
        e.refused(-1, x -> x.says(0, 7));
        e.refused(-1, x -> x.says(0, LEAST));
        e.refused(-1, x -> x.says(0, MOST));
    }

    static void promise08OneOfAnotherKind(Edge e) {
        e.given(Promises01To08EdgesTest::kinds);
        int[][] others = {{1, 2, 3, 4, 5, 6}, {2, 3, 4, 5, 6}, {3, 4, 5, 6}, {1, 2, 4, 5, 6},
            {1, 2, 3, 5, 6}, {1, 2, 4, 6}, {1, 2, 3, 5}};
        for (int mine = 0; mine < 7; mine++) {
            int s = mine;
            for (int other : others[mine]) {
                e.refused(-2, x -> x.says(s, other));
            }
        }
    }

    static void promise08OneOfTheKindOrUnderIt(Edge e) {
        e.given(Promises01To08EdgesTest::kinds);
        for (int s = 0; s < 7; s++) {
            int who = s;
            e.asked(35 - s, x -> x.says(who, 0));
        }
        e.asked(30, x -> x.says(1, 1));
        e.asked(39, x -> x.says(2, 1));
        e.asked(39, x -> x.says(2, 2));
        e.asked(9996, x -> x.says(3, 3));
        e.asked(9994, x -> x.says(5, 3));
        e.asked(9994, x -> x.says(5, 5));
        e.asked(7, x -> x.says(4, 4));
        e.asked(7, x -> x.says(6, 4));
        e.asked(7, x -> x.says(6, 6));
    }

    static void promise08RowOrNothing(Edge e) {
        e.given(Promises01To08EdgesTest::shelves);
        e.refused(-2, x -> x.says(0, 0));
        e.refused(-2, x -> x.says(5, 6));
        e.refused(-3, x -> x.says(2, 0));
        e.refused(-3, x -> x.says(2, 6));
    }

    static void promise08FirstRefusalThatFits(Edge e) {
        e.given(Promises01To08EdgesTest::shelves);
        e.refused(-1, x -> x.says(0, 7));
        e.refused(-1, x -> x.says(4, -1));
        e.refused(-1, x -> x.says(2, 7));
        e.refused(-1, x -> x.says(8, 7));
    }

    static void promise08AsItIsNow(Edge e) {
        TaxOnLooks x = e.x();
        kinds(x);
        x.ask(2, 1);
        e.is(15, x.says(1, 1));
        e.is(19, x.says(2, 1));
        x.sack(2, true);
        e.is(0, x.says(2, 2));
        x.put(2, 0);
        e.is(0, x.says(2, 0));
    }
}
