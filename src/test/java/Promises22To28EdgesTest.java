/** The edges that the document names of promises 22 to 28: what comes of it; nothing is changed. */
final class Promises22To28EdgesTest {
    private static final int LEAST = Edge.LEAST;
    private static final int MOST = Edge.MOST;

    public static void main(String[] args) throws IllegalAccessException {
        Edges.run(Promises22To28EdgesTest.class, 22, 28);
    }

    private static void walk(Edge e, int who, int to, int cost, int steps, int first) {
        e.asked(cost, x -> x.walk(who, to, 0));
        e.asked(steps, x -> x.walk(who, to, 1));
        e.asked(first, x -> x.walk(who, to, 2));
    }

    static void promise22NoSuchPerson(Edge e) {
        e.refused(-11, x -> x.walk(0, 0, 0));
        e.given("person 0 0 0 0 0 0");
        for (int who : new int[] {LEAST, -1, 1, MOST}) {
            e.refused(-11, x -> x.walk(who, 0, 0));
        }
    }

    static void promise22NoSuchWhat(Edge e) {
        e.given("person 0 0 0 0 0 0");
        for (int what : new int[] {LEAST, -1, 3, MOST}) {
            e.refused(-15, x -> x.walk(0, 0, what));
        }
    }

    static void promise22NoSuchSquareOrAWall(Edge e) {
        e.given("person 0 0 0 0 0 0;wall 35;wall 1;wall 6");
        for (int what = 0; what < 3; what++) {
            int of = what;
            for (int square : new int[] {LEAST, -1, 36, MOST, 35, 1}) {
                e.refused(-16, x -> x.walk(0, square, of));
            }
        }
    }

    static void promise22FirstRefusalThatFits(Edge e) {
        e.given("person 0 0 0 0 0 0;wall 35");
        e.refused(-11, x -> x.walk(1, 0, 3));
        e.refused(-11, x -> x.walk(1, 36, 0));
        e.refused(-11, x -> x.walk(-1, 35, 3));
        e.refused(-15, x -> x.walk(0, 36, 3));
        e.refused(-15, x -> x.walk(0, 35, -1));
    }

    static void promise22AtItAlready(Edge e) {
        String town = "person 0 0 20 9 0 14;person 0 0 0 0 0 14;balcony 14";
        e.given(town);
        e.asked(1, x -> x.duty(0, 0));
        walk(e, 0, 14, 0, 0, 14);
        e.given(town + ";wall 8;wall 13;wall 15;wall 20");
        walk(e, 0, 14, 0, 0, 14);
    }

    static void promise22NoWay(Edge e) {
        e.given("person 0 0 0 0 0 0;wall 1;wall 6");
        walk(e, 0, 35, -1, -1, -1);
        walk(e, 0, 7, -1, -1, -1);
        e.given("person 0 0 0 0 0 0;wall 29;wall 34");
        walk(e, 0, 35, -1, -1, -1);
        walk(e, 0, 28, 0, 8, 1);
        e.given("person 0 0 0 0 0 5;wall 4;wall 11");
        walk(e, 0, 6, -1, -1, -1);
    }

    static void promise22WhereHeComesToCostsNotWhereHeIs(Edge e) {
        // Row 1 is walled off; 1 glances along row 0, of which the balcony at 0 enters two squares.
        String town = "person 0 0 20 9 0 0;person 0 0 0 0 0 5;balcony 0;reach 1;person 0 0 0 0 0 0";
        e.given(town);
        e.asked(1, x -> x.duty(0, 0));
        walk(e, 0, 1, 1, 1, 1);
        walk(e, 0, 7, 1, 2, 1);
        e.given(town + ";wall 1");
        walk(e, 0, 7, 1, 2, 6);
        e.given("person 0 0 20 9 0 2;balcony 0;reach 1;person 0 0 0 0 0 0");
        walk(e, 0, 0, 2, 2, 1);
        walk(e, 0, 1, 1, 1, 1);
    }

    static void promise22CostMayBeAboveThePurse(Edge e) {
        e.given("person 0 0 20 9 3 1;person 0 0 0 0 0 0;balcony 0;wall 6;mite 9;reach 1");
        walk(e, 0, 0, 9, 1, 0);
    }

    static void promise22CheaperThanShorter(Edge e) {
        String town = "person 0 0 20 0 9 0;person 3 0 0 0 9 7;person 0 0 0 0 9 7;balcony 1;reach 1";
        e.given(town);
        walk(e, 0, 2, 0, 6, 6);
        e.given(town + ";wall 12;wall 13");
        walk(e, 0, 2, 1, 2, 1);
    }

    static void promise22FewestStepsThenLeastFirst(Edge e) {
        e.given("person 0 0 0 0 0 14");
        walk(e, 0, 0, 0, 4, 8);
        walk(e, 0, 5, 0, 5, 8);
        walk(e, 0, 30, 0, 5, 13);
        walk(e, 0, 35, 0, 6, 15);
        walk(e, 0, 26, 0, 2, 20);
        e.given("person 0 0 0 0 0 14;wall 8");
        walk(e, 0, 0, 0, 4, 13);
        walk(e, 0, 2, 0, 4, 13);
        walk(e, 0, 5, 0, 5, 15);
    }

    static void promise22NoStepsOverTheEdge(Edge e) {
        e.given("person 0 0 0 0 0 5");
        walk(e, 0, 6, 0, 6, 4);
        e.given("person 0 0 0 0 0 30");
        walk(e, 0, 29, 0, 6, 24);
        e.given("person 0 0 0 0 0 0");
        walk(e, 0, 35, 0, 10, 1);
    }

    static void promise22AllOthersStanding(Edge e) {
        // The lover at 3 glances at the nearer: at 0, but when 0 is at 15 at the one at 2.
        e.given("person 0 0 20 9 9 9;person 3 0 20 9 0 2;person 4 0 0 0 0 3;balcony 15;reach 2");
        e.asked(1, x -> x.duty(0, 0));
        walk(e, 0, 15, 0, 1, 15);
        walk(e, 0, 3, 1, 1, 3);
    }

    static void promise22DearestWay(Edge e) {
        // Along the one row without walls all six look at him at each square: 54 a step.
        e.given(x -> {
            x.person(1, 0, 20, 9, 0, 0);
            for (int i = 1; i < 7; i++) {
                x.person(0, 0, 0, 0, 0, 5);
            }
            for (int square = 0; square < 36; square++) {
                x.build(square, 0, square > 5);
                x.build(square, 1, true);
            }
            x.ask(0, 9);
        });
        walk(e, 0, 5, 270, 5, 1);
        walk(e, 6, 0, 0, 5, 4);
        e.refused(-11, x -> x.walk(7, 0, 0));
    }

    static void promise22LongestWay(Edge e) {
        // To and fro through the rows 0, 2 and 4.
        e.given(x -> {
            x.person(0, 0, 0, 0, 0, 0);
            for (int row = 1; row < 5; row += 2) {
                for (int column = 0; column < 6; column++) {
                    x.build(6 * row + column, 0, column != (row == 1 ? 5 : 0));
                }
            }
            for (int square = 30; square < 35; square++) {
                x.build(square, 0, true);
            }
        });
        walk(e, 0, 30 + 5, 0, 20, 1);
        walk(e, 0, 29, 0, 19, 1);
        walk(e, 0, 24, 0, 14, 1);
    }

    static void promise23NoSuchPersonOrWhat(Edge e) {
        e.refused(-1, x -> x.stand(0, 0));
        e.given("person 0 0 0 0 0 0");
        for (int who : new int[] {LEAST, -1, 1, MOST}) {
            e.refused(-1, x -> x.stand(who, 0));
            e.refused(-1, x -> x.stand(who, 2));
        }
        for (int what : new int[] {LEAST, -1, 2, MOST}) {
            e.refused(-5, x -> x.stand(0, what));
        }
    }

    private static void stand(Edge e, int who, int square, int duty) {
        e.asked(square, x -> x.stand(who, 0));
        e.asked(duty, x -> x.stand(who, 1));
    }

    static void promise23OfSeveralTheFirst(Edge e) {
        e.given("person 0 0 20 9 0 35");
        stand(e, 0, 0, 0);
        String town = "person 0 0 20 9 0 0;person 0 0 0 0 0 0;balcony 0";
        e.given(town);
        stand(e, 0, 7, 0);
        e.given(town + ";reach 4");
        stand(e, 0, 5, 0);
    }

    static void promise23NoWall(Edge e) {
        e.given("person 0 0 20 9 0 35;wall 0;wall 1");
        stand(e, 0, 2, 0);
        e.given(x -> {
            x.person(0, 0, 20, 9, 0, 35);
            x.person(0, 0, 0, 0, 0, 35);
            for (int square = 0; square < 35; square++) {
                x.build(square, 0, true);
            }
            x.build(29, 1, true);
            x.ask(0, 9);
        });
        stand(e, 0, 35, 9);
        stand(e, 1, 35, 0);
    }

    static void promise23ThoughThereIsNoWayThere(Edge e) {
        e.given("person 0 0 20 9 0 35;wall 1;wall 6");
        stand(e, 0, 0, 0);
    }

    static void promise23LeastAbove0(Edge e) {
        // All along the one row without walls it is lit, and both others look.
        e.given(x -> {
            x.person(1, 0, 20, 9, 0, 0);
            x.person(0, 0, 0, 0, 0, 0);
            x.person(0, 0, 0, 0, 0, 5);
            for (int square = 0; square < 36; square++) {
                x.build(square, 1, true);
                x.build(square, 0, square > 5);
            }
        });
        stand(e, 0, 0, 2);
        e.asked(2, x -> x.duty(0, 0));
    }

    static void promise23TheSeventh(Edge e) {
        e.given(Promises22To28EdgesTest::seven);
        stand(e, 6, 7, 0);
        stand(e, 0, 0, 0);
        e.refused(-1, x -> x.stand(7, 0));
    }

    static void promise24NoSuchK(Edge e) {
        for (int k : new int[] {LEAST, -1, 4, MOST}) {
            e.refused(-16, x -> x.sacks(k, 0));
            e.refused(-16, x -> x.sacks(k, 1));
        }
    }

    static void promise24NoSuchWhat(Edge e) {
        for (int what : new int[] {LEAST, -1, 2, MOST}) {
            e.refused(-15, x -> x.sacks(0, what));
            e.refused(-15, x -> x.sacks(3, what));
            e.refused(-15, x -> x.sacks(4, what));
        }
    }

    private static void sacks(Edge e, int k, int bits, int sum) {
        e.asked(bits, x -> x.sacks(k, 0));
        e.asked(sum, x -> x.sacks(k, 1));
    }

    static void promise24FewerThanKPeople(Edge e) {
        for (int n = 0; n <= 4; n++) {
            int people = n;
            e.given(x -> {
                for (int i = 0; i < people; i++) {
                    x.person(0, 0, 0, 0, 0, 0);
                }
            });
            for (int k = 0; k <= 3; k++) {
                int enough = (1 << k) - 1;
                sacks(e, k, k <= n ? enough : -1, k <= n ? 0 : -1);
            }
        }
    }

    /** Four who only look, and three at whom all but they themselves look. */
    private static void seven(TaxOnLooks x) {
        for (int i = 0; i < 7; i++) {
            x.person(0, 0, i < 4 ? 0 : 20, 9, 0, 0);
        }
        x.build(0, 1, true);
    }

    static void promise24LeastTogether(Edge e) {
        e.given(Promises22To28EdgesTest::seven);
        e.asked(18, x -> x.all(0));
        sacks(e, 0, 0, 18);
        sacks(e, 1, 16, 12);
        sacks(e, 2, 48, 6);
        sacks(e, 3, 112, 0);
    }

    static void promise24InSacksBesides(Edge e) {
        e.given(x -> {
            seven(x);
            x.sack(4, true);
        });
        sacks(e, 0, 0, 12);
        sacks(e, 1, 32, 6);
        sacks(e, 2, 96, 0);
        sacks(e, 3, 97, 0);
    }

    static void promise24OfSeveralTheLeastAsBits(Edge e) {
        e.given("person 0 0 20 0 0 0;person 0 0 20 0 0 0;person 0 0 20 0 0 0;balcony 0");
        sacks(e, 0, 0, 6);
        sacks(e, 1, 1, 4);
        sacks(e, 2, 3, 2);
        sacks(e, 3, 7, 0);
    }

    static void promise25NoSuchWhat(Edge e) {
        for (int what : new int[] {LEAST, -1, 2, MOST}) {
            e.refused(-5, x -> x.balconies(what));
        }
    }

    private static void balconies(Edge e, int square, int entered) {
        e.asked(square, x -> x.balconies(0));
        e.asked(entered, x -> x.balconies(1));
    }

    static void promise25Nobody(Edge e) {
        balconies(e, 0, 0);
        e.given("balcony 3;wall 0");
        balconies(e, 0, 0);
    }

    static void promise25OfSeveralTheFirst(Edge e) {
        String two = "person 0 0 20 9 0 21;person 0 0 0 0 0 21";
        e.given(two);
        balconies(e, 3, 1);
        e.given(two + ";reach 1");
        balconies(e, 15, 1);
        e.given(two + ";balcony 35");
        balconies(e, 3, 1);
        e.given(two + ";balcony 20");
        balconies(e, 0, 1);
        e.given(two + ";reach 1;mite 9;wall 15");
        balconies(e, 15, 1);
    }

    static void promise25MostEntered(Edge e) {
        e.given("person 0 0 20 9 0 0;person 0 0 0 0 0 0;person 0 0 20 9 0 35;person 0 0 0 0 0 35;"
                + "person 0 0 0 0 0 35;reach 1");
        balconies(e, 29, 2);
        e.given("person 0 0 20 9 0 0;person 0 0 0 0 0 0;person 0 0 20 9 0 35;person 0 0 0 0 0 35;"
                + "person 0 0 0 0 0 35;balcony 35;reach 1");
        balconies(e, 0, 3);
    }

    static void promise25BalconiesEverywhere(Edge e) {
        e.given(x -> {
            seven(x);
            for (int square = 0; square < 36; square++) {
                x.build(square, 1, true);
            }
        });
        balconies(e, 0, 18);
    }

    /** One in doubt, a blind one in view, two who look; shelf 6 one of the people, 5 nothing. */
    private static void doubt(TaxOnLooks x, int... duties) {
        Due.settle(x, 7, "balcony 0;person 1 0 1 0 0 0;person 3 0 6 0 0 0;person 0 0 0 3 0 3;"
                + "person 0 0 0 9 0 5");
        x.show(6, 0);
        Due.tell(x, 0, duties);
    }

    static void promise26NoSuchShelfOrPerson(Edge e) {
        e.given(x -> doubt(x, 0, 0, 0, 0));
        e.refused(-1, x -> x.fits(-1, 0));
        e.refused(-1, x -> x.fits(8, 0));
        for (int who : new int[] {LEAST, -1, 4, MOST}) {
            e.refused(-1, x -> x.fits(0, who));
        }
        e.given(x -> x.row(0, 0, 4));
        e.refused(-1, x -> x.fits(0, 0));
    }

    static void promise26NoRow(Edge e) {
        e.given(x -> doubt(x, 0, 0, 0, 0));
        e.refused(-2, x -> x.fits(6, 0));
        e.refused(-3, x -> x.fits(5, 0));
    }

    static void promise26FewerElements(Edge e) {
        e.given(x -> doubt(x));
        e.refused(-5, x -> x.fits(0, 0));
        e.given(x -> doubt(x, 0, 1, 0));
        e.refused(-5, x -> x.fits(0, 0));
        e.given(x -> doubt(x, 0, 1, 0, 0));
        e.asked(15, x -> x.fits(0, 0));
        e.given(x -> doubt(x, 0, 1, 0, 0, 9));
        e.asked(15, x -> x.fits(0, 0));
    }

    static void promise26FirstRefusalThatFits(Edge e) {
        e.given(x -> doubt(x, 0));
        e.refused(-1, x -> x.fits(6, 4));
        e.refused(-1, x -> x.fits(5, -1));
        e.refused(-1, x -> x.fits(0, 4));
        e.refused(-1, x -> x.fits(8, 0));
        e.refused(-5, x -> x.fits(0, 3));
    }

    static void promise26NoneAllAndTheFirstAndLast(Edge e) {
        e.given(x -> doubt(x, 1, 1, 0, 1));
        e.asked(0, x -> x.fits(0, 0));
        e.given(x -> doubt(x, -1, 1, 0, 0));
        e.asked(0, x -> x.fits(0, 0));
        e.given(x -> doubt(x, 2, 1, 0, 0));
        e.asked(0x1FFF00, x -> x.fits(0, 0));
        e.given(x -> doubt(x, 1, 1, 0, 0));
        e.asked(0xF0, x -> x.fits(0, 0));
        e.given(x -> {
            doubt(x, 0, 1, 0, 0);
            x.sack(0, true);
        });
        e.asked(0x1FFFFF, x -> x.fits(0, 0));
    }

    static void promise26LongsByTheirLowest32Bits(Edge e) {
        e.given(x -> {
            doubt(x);
            x.row(0, 3, 4);
            x.set(0, 0, 5L << 32);
            x.set(0, 1, 1 + (1L << 32));
            x.set(0, 3, 1L << 63);
        });
        e.asked(15, x -> x.fits(0, 0));
    }

    static void promise26AllSeven(Edge e) {
        e.given(x -> {
            seven(x);
            Due.tell(x, 0, 0, 0, 0, 0, 6, 6, 6);
        });
        e.asked(0x1FFC00, x -> x.fits(0, 6));
        e.asked(0x3FF, x -> x.fits(0, 0));
        e.refused(-1, x -> x.fits(0, 7));
        e.given(x -> {
            seven(x);
            Due.tell(x, 0, 0, 0, 0, 0, 6, 6);
        });
        e.refused(-5, x -> x.fits(0, 6));
    }

    static void promise27Nobody(Edge e) {
        e.refused(-5, x -> x.most(0));
        e.refused(-5, x -> x.most(1));
        e.refused(-5, x -> x.most(2));
    }

    static void promise27NoSuchWhat(Edge e) {
        e.given("person 0 0 0 0 0 0");
        for (int what : new int[] {LEAST, -1, 2, MOST}) {
            e.refused(-5, x -> x.most(what));
        }
    }

    static void promise27OfSeveralTheFirst(Edge e) {
        e.given("person 0 0 0 0 0 0");
        e.asked(0, x -> x.most(0));
        e.asked(0, x -> x.most(1));
        e.given("person 0 0 20 0 0 0;person 0 0 20 0 0 0;person 0 0 20 0 0 0");
        e.asked(0, x -> x.most(0));
        e.asked(0, x -> x.most(1));
        e.given(Promises22To28EdgesTest::seven);
        e.asked(4, x -> x.most(0));
        e.asked(4, x -> x.most(1));
    }

    static void promise27AsIfHeWerentThere(Edge e) {
        // Three look at 0: without one of them 2 are owed, without 0 nothing.
        e.given("person 3 0 20 9 0 0;person 0 0 0 0 0 0;person 0 0 0 0 0 0;person 0 0 0 0 0 0;"
                + "balcony 0");
        e.asked(0, x -> x.most(1));
        // His glances go with him: 1 and 2 owe for those of 3 alone.
        e.given("person 3 0 1 9 0 0;person 3 0 1 9 0 0;person 3 0 1 9 0 0;person 0 0 0 0 0 0;"
                + "balcony 0;sack 0");
        e.asked(2, x -> x.all(0));
        e.asked(1, x -> x.most(0));
        e.asked(3, x -> x.most(1));
        // He isn't only in a sack: 0 there would look on, and 2 there would be better.
        e.given("person 0 0 1 0 0 0;person 0 0 1 0 0 0;person 3 0 1 0 0 0;balcony 0");
        e.asked(4, x -> x.all(0));
        e.asked(0, x -> x.most(1));
        // The lover turns to another then: without the CHILD 2 are owed.
        e.given("person 5 0 20 9 0 0;person 4 0 0 0 0 0;person 3 0 19 9 0 0;balcony 0;mite 2");
        e.asked(0, x -> x.all(0));
        e.asked(1, x -> x.most(1));
    }

    static void promise28NoSuchWhat(Edge e) {
        for (int what : new int[] {LEAST, -1, 2, MOST}) {
            e.refused(-5, x -> x.crowd(what));
        }
    }

    static void promise28InViewOfNobody(Edge e) {
        e.asked(0, x -> x.crowd(0));
        e.given("person 3 0 0 0 0 35;person 5 0 0 0 0 35");
        e.asked(0, x -> x.crowd(0));
        e.given("person 3 0 0 0 0 35;person 5 0 0 0 0 35;person 6 0 0 0 0 28;reach 1");
        e.asked(22, x -> x.crowd(0));
    }

    static void promise28OfSeveralTheFirst(Edge e) {
        e.given("person 0 0 0 0 0 35");
        e.asked(5, x -> x.crowd(0));
        e.given("person 0 0 0 0 0 35;reach 1");
        e.asked(29, x -> x.crowd(0));
        e.given("person 0 0 0 0 0 35;wall 29;wall 34");
        e.asked(29, x -> x.crowd(0));
        e.given("person 0 0 0 0 0 14;person 0 0 0 0 0 21");
        e.asked(15, x -> x.crowd(0));
        e.given("person 0 0 0 0 0 14;person 0 0 0 0 0 21;person 0 0 0 9 0 14;sack 2");
        e.asked(15, x -> x.crowd(0));
        e.given("person 0 0 0 0 0 35;person 0 0 0 0 0 35;person 0 0 0 0 0 0;reach 4");
        e.asked(11, x -> x.crowd(0));
    }

    static void promise28AllSeven(Edge e) {
        e.given(Promises22To28EdgesTest::seven);
        e.asked(0, x -> x.crowd(0));
        e.given(x -> {
            seven(x);
            x.put(4, 7);
            x.put(5, 7);
            x.put(6, 7);
        });
        e.asked(1, x -> x.crowd(0));
    }

    static void promise28LitSquares(Edge e) {
        e.asked(0, x -> x.crowd(1));
        e.given("balcony 0");
        e.asked(11, x -> x.crowd(1));
        e.given("balcony 0;reach 1");
        e.asked(3, x -> x.crowd(1));
        e.given("balcony 35;reach 1;wall 35");
        e.asked(3, x -> x.crowd(1));
        e.given("balcony 0;wall 1;wall 12");
        e.asked(4, x -> x.crowd(1));
        e.given("balcony 0;balcony 1");
        e.asked(16, x -> x.crowd(1));
        e.given("balcony 0;balcony 7;balcony 14;balcony 21;balcony 28");
        e.asked(35, x -> x.crowd(1));
        e.given("balcony 0;balcony 7;balcony 14;balcony 21;balcony 28;balcony 35");
        e.asked(36, x -> x.crowd(1));
    }
}
