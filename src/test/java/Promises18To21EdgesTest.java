import java.util.function.Consumer;

/** The edges that the document names of promises 18 to 21: views, glances, duties, all together. */
final class Promises18To21EdgesTest {
    private static final int LEAST = Edge.LEAST;
    private static final int MOST = Edge.MOST;
    /** Somebody so shamed that he glances at nobody in these towns. */
    private static final String SHY = "person 0 0 0 9 ";

    public static void main(String[] args) throws IllegalAccessException {
        Edges.run(Promises18To21EdgesTest.class, 18, 21);
    }

    static void promise18NoSuchSquare(Edge e) {
        for (int square : new int[] {LEAST, -1, 36, MOST}) {
            e.refused(-6, x -> x.view(square, 0));
            e.refused(-6, x -> x.view(35, square));
            e.refused(-6, x -> x.view(square, square));
        }
    }

    static void promise18ItselfAlways(Edge e) {
        e.given("reach 1;wall 0;wall 1;wall 35");
        for (int square : new int[] {0, 1, 14, 35}) {
            e.asked(1, x -> x.view(square, square));
        }
    }

    static void promise18SameRowOrColumn(Edge e) {
        for (int to = 0; to < 36; to++) {
            int at = to;
            e.answers(to / 6 == 2 || to % 6 == 2 ? 1 : 0, x -> x.view(14, at));
            e.answers(to / 6 == 2 || to % 6 == 2 ? 1 : 0, x -> x.view(at, 14));
        }
        e.asked(0, x -> x.view(5, 6));
        e.asked(0, x -> x.view(6, 5));
        e.asked(0, x -> x.view(0, 7));
    }

    static void promise18ReachOffAtMost(Edge e) {
        for (int reach = 1; reach <= 5; reach++) {
            e.given("reach " + reach);
            for (int off = 1; off <= 5; off++) {
                int o = off;
                int want = off <= reach ? 1 : 0;
                e.asked(want, x -> x.view(0, o));
                e.asked(want, x -> x.view(0, 6 * o));
                e.asked(want, x -> x.view(35, 35 - o));
                e.asked(want, x -> x.view(35, 35 - 6 * o));
            }
        }
    }

    static void promise18NoWallBetween(Edge e) {
        e.given("wall 2;wall 12");
        e.asked(1, x -> x.view(0, 1));
        e.asked(1, x -> x.view(0, 2));
        e.asked(0, x -> x.view(0, 3));
        e.asked(0, x -> x.view(3, 0));
        e.asked(0, x -> x.view(1, 3));
        e.asked(1, x -> x.view(2, 0));
        e.asked(1, x -> x.view(2, 5));
        e.asked(1, x -> x.view(2, 32));
        e.asked(1, x -> x.view(3, 5));
        e.asked(1, x -> x.view(0, 12));
        e.asked(0, x -> x.view(0, 18));
        e.asked(0, x -> x.view(30, 6));
        e.asked(1, x -> x.view(12, 30));
        e.given("wall 2;wall 4");
        e.asked(1, x -> x.view(2, 4));
        e.asked(0, x -> x.view(2, 5));
    }

    static void promise18BalconyAndPeopleAreNoWall(Edge e) {
        e.given("balcony 2;person 0 0 0 0 0 3");
        e.asked(1, x -> x.view(0, 5));
    }

    static void promise19NoSuchPersonOrWhat(Edge e) {
        e.refused(-1, x -> x.glances(0, 0));
        e.given(SHY + "0 0");
        for (int who : new int[] {LEAST, -1, 1, MOST}) {
            e.refused(-1, x -> x.glances(who, 0));
            e.refused(-1, x -> x.glances(who, 2));
        }
        for (int what : new int[] {LEAST, -1, 2, MOST}) {
            e.refused(-5, x -> x.glances(0, what));
        }
    }

    static void promise19NeverAtHimself(Edge e) {
        e.given("person 0 0 20 0 0 0");
        e.asked(0, x -> x.glances(0, 0));
        e.asked(0, x -> x.glances(0, 1));
    }

    static void promise19ShowAboveShameAndDistance(Edge e) {
        e.given("person 0 0 0 2 0 0;person 0 0 5 9 0 3");
        e.asked(0, x -> x.glances(0, 1));
        e.asked(0, x -> x.glances(1, 0));
        e.given("person 0 0 0 2 0 0;person 0 0 6 9 0 3");
        e.asked(2, x -> x.glances(0, 1));
        e.asked(1, x -> x.glances(1, 0));
        e.given("person 0 0 0 2 0 0;person 0 0 5 9 0 18");
        e.asked(0, x -> x.glances(0, 1));
        e.given("person 0 0 0 2 0 0;person 0 0 6 9 0 18");
        e.asked(2, x -> x.glances(0, 1));
    }

    static void promise19AtOneSquare(Edge e) {
        e.given("person 0 0 0 0 0 7;" + SHY + "0 7");
        e.asked(0, x -> x.glances(0, 1));
        e.given("person 0 0 0 0 0 7;person 0 0 1 9 0 7");
        e.asked(2, x -> x.glances(0, 1));
        e.given("person 0 0 0 9 0 7;person 0 0 9 9 0 7;person 0 0 10 9 0 7");
        e.asked(4, x -> x.glances(0, 1));
    }

    static void promise19AllSevenAtOneSquare(Edge e) {
        e.given(x -> {
            for (int i = 0; i < 7; i++) {
                x.person(0, 0, 20, 0, 0, 35);
            }
        });
        for (int who = 0; who < 7; who++) {
            int of = who;
            e.asked(127 - (1 << who), x -> x.glances(of, 0));
            e.asked(127 - (1 << who), x -> x.glances(of, 1));
        }
    }

    static void promise19InView(Edge e) {
        String town = "person 0 0 0 0 0 0;person 0 0 20 9 0 4";
        e.given(town + ";reach 4");
        e.asked(2, x -> x.glances(0, 1));
        e.given(town + ";reach 3");
        e.asked(0, x -> x.glances(0, 1));
        e.given(town + ";wall 2");
        e.asked(0, x -> x.glances(0, 1));
        e.given("person 0 0 0 0 0 0;person 0 0 20 9 0 7");
        e.asked(0, x -> x.glances(0, 1));
    }

    static void promise19HalfInRain(Edge e) {
        e.given(x -> {
            Due.settle(x, 7, "person 0 0 0 0 0 0;person 0 0 7 9 0 3");
            x.ask(2, 1);
        });
        e.asked(0, x -> x.glances(0, 1));
        e.given(x -> {
            Due.settle(x, 7, "person 0 0 0 0 0 0;person 0 0 8 9 0 3");
            x.ask(2, 1);
        });
        e.asked(2, x -> x.glances(0, 1));
    }

    static void promise19OutOfASackOnly(Edge e) {
        e.given("person 0 0 20 0 0 0;person 0 0 20 0 0 0;sack 0");
        e.asked(0, x -> x.glances(0, 0));
        e.asked(2, x -> x.glances(0, 1));
        e.asked(1, x -> x.glances(1, 0));
        e.asked(0, x -> x.glances(1, 1));
    }

    static void promise19BlindAndChildNever(Edge e) {
        for (int kind : new int[] {3, 5}) {
            e.given("person " + kind + " 0 0 0 0 0;person 0 0 20 0 0 0");
            e.asked(0, x -> x.glances(0, 1));
            e.asked(0, x -> x.glances(1, 0));
        }
        for (int kind : new int[] {0, 1, 2, 4, 6}) {
            e.given("person " + kind + " 0 0 0 0 0;person 0 0 20 0 0 0");
            e.asked(2, x -> x.glances(0, 1));
            e.asked(1, x -> x.glances(1, 0));
        }
    }

    static void promise19LoverAndShamedOnlyAtOne(Edge e) {
        for (int kind : new int[] {4, 6}) {
            String lover = "person " + kind + " 0 0 1 0 0";
            // The nearest, though of less show.
            e.given("person 0 0 20 9 0 3;person 0 0 4 9 0 2;" + lover);
            e.asked(2, x -> x.glances(2, 1));
            // The nearest at whom he would glance: 3 is not above 1 and 2.
            e.given("person 0 0 20 9 0 3;person 0 0 3 9 0 2;" + lover);
            e.asked(1, x -> x.glances(2, 1));
            // Of several the greatest show, in a row or a column.
            e.given("person 0 0 10 9 0 3;person 0 0 11 9 0 18;" + lover);
            e.asked(2, x -> x.glances(2, 1));
            e.given("person 0 0 11 9 0 3;person 0 0 10 9 0 18;" + lover);
            e.asked(1, x -> x.glances(2, 1));
            // Of several the first.
            e.given("person 0 0 11 9 0 3;person 0 0 11 9 0 18;" + lover);
            e.asked(1, x -> x.glances(2, 1));
            e.given(lover + ";person 0 0 9 9 0 3;person 0 0 11 9 0 18;person 0 0 11 9 0 3");
            e.asked(4, x -> x.glances(0, 1));
            // At none.
            e.given(lover + ";person 0 0 1 9 0 0");
            e.asked(0, x -> x.glances(0, 1));
        }
    }

    static void promise19OneAmongManyAtOneSquare(Edge e) {
        e.given("person 4 0 20 0 0 0;person 4 0 20 0 0 0;person 6 0 20 0 0 0");
        e.asked(6, x -> x.glances(0, 0));
        e.asked(2, x -> x.glances(0, 1));
        e.asked(1, x -> x.glances(1, 1));
        e.asked(1, x -> x.glances(2, 1));
    }

    static void promise19SevenLoversAtOneSquare(Edge e) {
        for (int kind : new int[] {4, 6}) {
            e.given(x -> {
                for (int i = 0; i < 7; i++) {
                    x.person(kind, 0, 10 + i % 3, 0, 0, 35);
                }
            });
            // 2 and 5 show most: all but 2 glance at 2, and 2 at 5.
            e.asked(123, x -> x.glances(2, 0));
            e.asked(4, x -> x.glances(5, 0));
            e.asked(32, x -> x.glances(2, 1));
            e.asked(4, x -> x.glances(6, 1));
            e.asked(0, x -> x.glances(6, 0));
        }
    }

    static void promise20NoSuchPersonOrWhat(Edge e) {
        e.refused(-1, x -> x.duty(0, 0));
        e.given(SHY + "0 0");
        for (int who : new int[] {LEAST, -1, 1, MOST}) {
            e.refused(-1, x -> x.duty(who, 0));
            e.refused(-1, x -> x.duty(who, 2));
        }
        for (int what : new int[] {LEAST, -1, 2, MOST}) {
            e.refused(-5, x -> x.duty(0, what));
        }
        e.asked(0, x -> x.duty(0, 0));
        e.asked(0, x -> x.duty(0, 1));
    }

    private static void entered(Edge e, int want, String more) {
        e.given("person 0 0 0 0 0 0;person 0 0 20 9 0 3" + more);
        e.asked(2, x -> x.glances(0, 1));
        e.asked(want, x -> x.duty(1, 0));
        e.asked(want, x -> x.duty(0, 1));
        e.asked(0, x -> x.duty(0, 0));
        e.asked(0, x -> x.duty(1, 1));
    }

    static void promise20OnlyWhatIsEntered(Edge e) {
        entered(e, 0, "");
        entered(e, 1, ";balcony 3");
        entered(e, 1, ";balcony 0");
        entered(e, 1, ";balcony 33");
        entered(e, 0, ";balcony 6");
        entered(e, 0, ";balcony 8");
        entered(e, 1, ";balcony 33;balcony 9;balcony 3");
        entered(e, 9, ";balcony 33;balcony 9;mite 9");
    }

    static void promise20EnteredWithinReachOfTheBalcony(Edge e) {
        entered(e, 1, ";balcony 21;reach 3");
        entered(e, 0, ";balcony 27;reach 3");
        entered(e, 0, ";balcony 33;wall 9");
        entered(e, 1, ";balcony 33;wall 33");
        entered(e, 1, ";balcony 9;wall 9");
        entered(e, 0, ";balcony 15;wall 9");
    }

    static void promise20MiteForEachGlance(Edge e) {
        for (int n = 0; n <= 6; n++) {
            for (int mite = 1; mite <= 9; mite++) {
                int want = n * mite;
                e.given(crowdAround("person 0 0 20 9 0 0", n, mite));
                e.answers(want, x -> x.duty(0, 0));
                e.given(crowdAround("person 3 0 20 9 0 0", n, mite));
                e.answers(want, x -> x.duty(0, 0));
            }
        }
    }

    /** The first one, n who look at him and show nothing, and a balcony. */
    private static Consumer<TaxOnLooks> crowdAround(String one, int n, int mite) {
        return x -> {
            Due.settle(x, 7, one + ";balcony 0;mite " + mite);
            for (int i = 0; i < n; i++) {
                x.person(0, 0, 0, 0, 0, 0);
            }
        };
    }

    static void promise20NinthLessIsUpward(Edge e) {
        int[][] told = {{0, 9, 0}, {1, 1, 1}, {1, 8, 8}, {1, 9, 8}, {2, 5, 9}, {2, 4, 8}, {3, 3, 8},
            {2, 8, 15}, {2, 9, 16}, {3, 6, 16}, {3, 7, 19}, {3, 9, 24}, {4, 9, 32}, {5, 7, 32},
            {5, 9, 40}, {6, 8, 43}, {6, 9, 48}};
        for (int[] t : told) {
            e.given(crowdAround("person 2 0 20 9 0 0", t[0], t[1]));
            e.answers(t[2], x -> x.duty(0, 0));
            e.given(crowdAround("person 1 0 20 9 0 0", t[0], t[1]));
            e.answers(t[0] * t[1], x -> x.duty(0, 0));
        }
    }

    static void promise20AllSevenOwe(Edge e) {
        e.given(x -> {
            for (int i = 0; i < 7; i++) {
                x.person(0, 0, 20, 0, 0, 35);
            }
            x.build(35, 1, true);
            x.ask(0, 9);
        });
        for (int who = 0; who < 7; who++) {
            int of = who;
            e.asked(54, x -> x.duty(of, 0));
            e.asked(54, x -> x.duty(of, 1));
        }
        e.asked(378, x -> x.all(0));
        e.asked(378, x -> x.all(1));
        e.asked(127, x -> x.all(2));
        e.asked(0, x -> x.all(3));
    }

    static void promise20ChildOwesNothing(Edge e) {
        e.given(crowdAround("person 5 0 20 9 0 0", 6, 9));
        e.asked(126, x -> x.glances(0, 0));
        e.asked(0, x -> x.duty(0, 0));
        for (int who = 1; who < 7; who++) {
            int of = who;
            e.asked(9, x -> x.duty(of, 1));
        }
    }

    static void promise20FineIsNoNinthLess(Edge e) {
        e.given("person 2 0 0 0 0 0;person 2 0 20 9 0 0;balcony 0;mite 9");
        e.asked(9, x -> x.duty(0, 1));
        e.asked(8, x -> x.duty(1, 0));
        e.given("person 5 0 0 0 0 0;person 0 0 20 9 0 0;balcony 0;mite 9");
        e.asked(0, x -> x.duty(0, 1));
    }

    static void promise20FineForEachOfHis(Edge e) {
        e.given("person 0 0 0 0 0 0;person 0 0 20 9 0 0;person 0 0 20 9 0 3;person 0 0 20 9 0 5;"
                + "balcony 18;mite 7");
        e.asked(14, x -> x.glances(0, 1));
        e.asked(7, x -> x.duty(0, 1));
        e.given("person 4 0 0 0 0 0;person 0 0 20 9 0 0;person 0 0 20 9 0 3;balcony 0;mite 7");
        e.asked(7, x -> x.duty(0, 1));
    }

    static void promise21NoSuchWhat(Edge e) {
        for (int what : new int[] {LEAST, -1, 4, MOST}) {
            e.refused(-5, x -> x.all(what));
        }
    }

    static void promise21Nobody(Edge e) {
        e.given("balcony 0");
        for (int what = 0; what < 4; what++) {
            int of = what;
            e.asked(0, x -> x.all(of));
        }
    }

    static void promise21RuinedAboveThePurse(Edge e) {
        String lookers = ";person 0 0 0 0 0 0;person 0 0 0 0 0 0;balcony 0;mite 3";
        for (int purse = 4; purse <= 8; purse++) {
            e.given("person 0 0 20 9 " + purse + " 0" + lookers);
            e.asked(6, x -> x.duty(0, 0));
            e.asked(purse < 6 ? 1 : 0, x -> x.all(2));
        }
        e.given("person 2 0 20 9 5 0" + lookers);
        e.asked(6, x -> x.duty(0, 0));
        e.asked(1, x -> x.all(2));
    }

    static void promise21RuinedFirstAndLast(Edge e) {
        e.given(x -> {
            x.person(0, 0, 20, 9, 0, 0);
            for (int i = 1; i < 6; i++) {
                x.person(0, 0, 0, 0, 0, 0);
            }
            x.person(0, 0, 20, 9, 0, 0);
            x.build(0, 1, true);
        });
        e.asked(65, x -> x.all(2));
        e.asked(5, x -> x.all(3));
        e.asked(12, x -> x.all(0));
        e.asked(12, x -> x.all(1));
    }

    static void promise21SolventOwesNothing(Edge e) {
        e.given("person 0 0 20 9 99 0;person 5 0 20 9 0 0;person 0 0 0 0 0 0;balcony 0");
        e.asked(2, x -> x.all(3));
        e.asked(0, x -> x.all(2));
        e.given("person 0 0 20 9 99 0;person 5 0 20 9 0 0;person 0 0 0 0 0 0");
        e.asked(3, x -> x.all(3));
    }

    static void promise21DutiesAndFinesTogether(Edge e) {
        e.given("person 2 0 9 9 0 0;person 5 0 20 9 0 0;person 0 0 0 0 0 0;person 0 0 0 0 0 1;"
                + "balcony 0;mite 9");
        // The ACTRESS owes 18 less 2, and glances at the CHILD; she is glanced at by 2 and 3,
        // the CHILD by 0, 2 and 3.
        e.asked(16, x -> x.duty(0, 0));
        e.asked(16, x -> x.all(0));
        e.asked(45, x -> x.all(1));
    }
}
