/** Promises 22 to 28: walks, stands, sacks, balconies, looks that fit, most and crowd. */
final class PlanTest {
    private static final Due due = new Due("PlanTest");

    public static void main(String[] args) {
        walks();
        walkTies();
        noWay();
        stands();
        sacks();
        balconies();
        fits();
        most();
        crowds();
        due.end();
    }

    private static void walk(TaxOnLooks x, int who, int to, int cost, int steps, int first) {
        due.is("cost to " + to, x.walk(who, to, 0), cost);
        due.is("steps to " + to, x.walk(who, to, 1), steps);
        due.is("first to " + to, x.walk(who, to, 2), first);
    }

    private static void walks() {
        TaxOnLooks x = Due.townOf("reach 1;balcony 1;person 0 0 20 0 9 0;person 3 0 0 0 9 7;"
                + "person 0 0 0 0 9 7");
        walk(x, 0, 2, 0, 6, 6);
        x.build(13, 0, true);
        walk(x, 0, 2, 0, 8, 6);
        x.build(12, 0, true);
        walk(x, 0, 2, 1, 2, 1);
        x.ask(0, 9);
        walk(x, 0, 2, 9, 2, 1);
        x.build(1, 1, false);
        walk(x, 0, 2, 0, 2, 1);
        due.is("nothing is changed", x.personOf(0, 5), 0);
        due.is("nothing is changed", x.personOf(0, 4), 9);
    }

    private static void walkTies() {
        TaxOnLooks x = new TaxOnLooks();
        x.person(0, 0, 0, 0, 0, 14);
        walk(x, 0, 0, 0, 4, 8);
        walk(x, 0, 35, 0, 6, 15);
        walk(x, 0, 32, 0, 3, 20);
        walk(x, 0, 12, 0, 2, 13);
        walk(x, 0, 14, 0, 0, 14);
        x.build(8, 0, true);
        walk(x, 0, 0, 0, 4, 13);
        walk(x, 0, 2, 0, 4, 13);
    }

    private static void noWay() {
        TaxOnLooks x = Due.townOf("person 0 0 5 0 0 0;wall 1;wall 6");
        walk(x, 0, 35, -1, -1, -1);
        walk(x, 0, 0, 0, 0, 0);
        due.is("none of these is refused", x.status(11) + x.status(15) + x.status(16), 0);
        due.is("wall", x.walk(0, 1, 0), -16);
        due.is("square", x.walk(0, 36, 0), -16);
        due.is("square", x.walk(0, -1, 2), -16);
        due.is("what before square", x.walk(0, 36, 3), -15);
        due.is("what", x.walk(0, 0, -1), -15);
        due.is("nobody first", x.walk(1, 36, 3), -11);
        due.is("nobody", x.walk(-1, 0, 0), -11);
        due.is("counted", x.status(11), 2);
        due.is("counted", x.status(15), 2);
        due.is("counted", x.status(16), 3);
    }

    private static void stands() {
        TaxOnLooks x = Due.townOf("balcony 0;person 0 0 20 0 0 0;person 0 0 0 0 0 0");
        due.is("stand", x.stand(0, 0), 7);
        due.is("duty there", x.stand(0, 1), 0);
        x.build(7, 0, true);
        due.is("no wall", x.stand(0, 0), 8);
        x.sack(0, true);
        due.is("in a sack", x.stand(0, 0), 0);
        due.is("nobody looks there", x.stand(1, 0), 0);
        due.is("still there", x.personOf(0, 5), 0);
        due.is("what", x.stand(0, 2), -5);
        due.is("what", x.stand(0, -1), -5);
        due.is("nobody first", x.stand(2, 2), -1);
        due.is("nobody", x.stand(-1, 0), -1);
        StringBuilder walls = new StringBuilder("mite 3;person 0 0 9 0 0 35;person 0 0 9 0 0 35");
        TaxOnLooks y = Due.townOf(walls.toString());
        for (int square = 0; square < 35; square++) {
            y.build(square, 0, true);
        }
        y.build(34, 1, true);
        due.is("the only one", y.stand(0, 0), 35);
        due.is("dear", y.stand(0, 1), 3);
    }

    private static void sacks() {
        TaxOnLooks x = Due.townOf("balcony 0;person 0 0 5 0 0 0;person 0 0 5 0 0 0;"
                + "person 2 0 9 0 0 0");
        due.is("duties", x.all(0), 6);
        due.is("none", x.sacks(0, 0), 0);
        due.is("none", x.sacks(0, 1), 6);
        due.is("one", x.sacks(1, 0), 1);
        due.is("one", x.sacks(1, 1), 4);
        due.is("two", x.sacks(2, 0), 3);
        due.is("two", x.sacks(2, 1), 2);
        due.is("three", x.sacks(3, 0), 7);
        due.is("three", x.sacks(3, 1), 0);
        x.sack(0, true);
        due.is("another besides", x.sacks(1, 0), 2);
        due.is("another besides", x.sacks(1, 1), 2);
        due.is("one in a sack counts too", x.sacks(3, 0), 7);
        due.is("still out", x.personOf(1, 6), 0);
        due.is("k", x.sacks(4, 0), -16);
        due.is("k", x.sacks(-1, 1), -16);
        due.is("what first", x.sacks(4, 2), -15);
        due.is("what", x.sacks(0, -1), -15);
        TaxOnLooks y = new TaxOnLooks();
        due.is("nobody", y.sacks(0, 0), 0);
        due.is("nobody", y.sacks(0, 1), 0);
        due.is("too few", y.sacks(1, 0), -1);
        y.person(0, 0, 0, 0, 0, 0);
        y.person(0, 0, 0, 0, 0, 0);
        due.is("enough", y.sacks(2, 0), 3);
        due.is("too few", y.sacks(3, 1), -1);
        due.is("none of these is refused", y.status(11) + y.status(15) + y.status(16), 0);
    }

    private static void balconies() {
        TaxOnLooks x = Due.townOf("mite 9;reach 1;person 0 0 20 0 0 7;person 0 0 20 0 0 7;"
                + "person 0 0 20 0 0 33;person 3 0 0 0 0 27");
        due.is("square", x.balconies(0), 1);
        due.is("entered", x.balconies(1), 2);
        x.build(1, 0, true);
        due.is("on a wall", x.balconies(0), 1);
        x.build(13, 1, true);
        due.is("there are two already", x.balconies(1), 2);
        due.is("the first of all", x.balconies(0), 0);
        x.put(3, 26);
        x.person(0, 0, 0, 0, 0, 33);
        due.is("more", x.balconies(0), 27);
        due.is("more", x.balconies(1), 3);
        due.is("none is built", x.status(2), 1);
        due.is("what", x.balconies(2), -5);
        due.is("what", x.balconies(-1), -5);
        TaxOnLooks y = new TaxOnLooks();
        due.is("nobody", y.balconies(0), 0);
        due.is("nobody", y.balconies(1), 0);
    }

    private static void fits() {
        TaxOnLooks x = Due.townOf("balcony 0;person 1 0 1 0 0 0;person 3 0 6 0 0 0;"
                + "person 0 0 0 3 0 3;person 0 0 0 9 0 5");
        Due.tell(x, 0, 1, 1, 0, 0);
        due.is("6 < 2 * looks <= 14", x.fits(0, 0), 0xF0);
        Due.tell(x, 0, 2, 1, 0, 0);
        due.is("above 14", x.fits(0, 0), 0x1FFF00);
        Due.tell(x, 0, 0, 1, 0, 0);
        due.is("6 at most", x.fits(0, 0), 0xF);
        Due.tell(x, 0, 0, 1, 0, 0, 77);
        due.is("more elements are free", x.fits(0, 0), 0xF);
        Due.tell(x, 0, 0, 1, 0, 1);
        due.is("all must fit", x.fits(0, 0), 0);
        Due.tell(x, 0, 0, 1, 0);
        due.is("fewer", x.fits(0, 0), -5);
        x.row(0, 3, 4);
        x.set(0, 1, 1 + (7L << 32));
        due.is("longs as ints", x.fits(0, 0), 0xF);
        x.sack(0, true);
        due.is("in a sack all fit", x.fits(0, 0), 0x1FFFFF);
        due.is("looks still", x.personOf(0, 2), 1);
        due.is("nobody", x.fits(0, 4), -1);
        due.is("nobody", x.fits(1, -1), -1);
        due.is("no shelf", x.fits(8, 0), -1);
        due.is("nothing", x.fits(1, 0), -3);
        x.show(1, 0);
        due.is("person", x.fits(1, 0), -2);
        due.is("nobody first", x.fits(1, 4), -1);
    }

    private static void most() {
        TaxOnLooks x = Due.townOf("balcony 0;person 3 0 20 0 0 0;person 0 0 8 2 0 0;"
                + "person 0 0 9 0 0 4;person 4 0 0 0 0 1");
        due.is("3, 1, 1", x.duty(0, 0) * 100 + x.duty(1, 0) * 10 + x.duty(2, 0), 311);
        due.is("most", x.most(0), 0);
        due.is("without 0 it were 3, without 1 or 2 it were 2", x.most(1), 1);
        x.sack(0, true);
        due.is("0, 2, 1", x.duty(0, 0) * 100 + x.duty(1, 0) * 10 + x.duty(2, 0), 21);
        due.is("most", x.most(0), 1);
        due.is("his glance goes with him", x.most(1), 1);
        x.build(0, 1, false);
        due.is("nobody owes", x.most(0), 0);
        due.is("nobody owes", x.most(1), 0);
        due.is("what", x.most(2), -5);
        due.is("what", x.most(-1), -5);
        due.is("nobody", new TaxOnLooks().most(0), -5);
        due.is("nobody", new TaxOnLooks().most(1), -5);
        TaxOnLooks y = Due.townOf("mite 9;balcony 0;person 5 0 20 0 0 0;person 4 0 3 0 0 1;"
                + "person 0 0 20 0 0 2;person 0 0 9 0 0 3");
        due.is("the lover looks at the child", y.glances(1, 1), 1);
        due.is("without the child he would look at 2", y.all(0), 36);
        due.is("so 2 goes", y.most(1), 2);
    }

    private static void crowds() {
        TaxOnLooks x = new TaxOnLooks();
        due.is("nobody", x.crowd(0), 0);
        due.is("dark", x.crowd(1), 0);
        x.person(0, 0, 0, 0, 0, 14);
        due.is("one", x.crowd(0), 2);
        x.person(0, 0, 0, 0, 0, 21);
        due.is("two", x.crowd(0), 15);
        x.person(3, 0, 0, 0, 0, 0);
        x.person(5, 0, 0, 0, 0, 0);
        x.person(5, 0, 0, 0, 0, 0);
        due.is("not the blind", x.crowd(0), 15);
        x.sack(0, true);
        x.build(15, 0, true);
        due.is("a wall is seen", x.crowd(0), 15);
        x.ask(1, 1);
        due.is("reach", x.crowd(0), 15);
        x.put(0, 30);
        due.is("the first of one each", x.crowd(0), 15);
        x.build(0, 1, true);
        due.is("lit", x.crowd(1), 3);
        x.build(1, 1, true);
        due.is("lit", x.crowd(1), 5);
        x.build(15, 1, true);
        due.is("lit from a wall", x.crowd(1), 10);
        x.build(8, 0, true);
        due.is("lit", x.crowd(1), 10);
        x.ask(1, 5);
        due.is("far", x.crowd(1), 24);
        due.is("what", x.crowd(2), -5);
        due.is("what", x.crowd(-1), -5);
    }
}
