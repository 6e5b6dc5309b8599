/** Promises 18 to 21: views, glances, duties, and all together. */
final class GlanceTest {
    private static final Due due = new Due("GlanceTest");

    public static void main(String[] args) {
        views();
        looksAndNearness();
        kinds();
        lovers();
        entered();
        duties();
        together();
        due.end();
    }

    private static void views() {
        TaxOnLooks x = new TaxOnLooks();
        for (int from = 0; from < 36; from++) {
            for (int to = 0; to < 36; to++) {
                boolean straight = from / 6 == to / 6 || from % 6 == to % 6;
                due.is("view " + from + " " + to, x.view(from, to), straight ? 1 : 0);
            }
        }
        x.ask(1, 2);
        due.is("reach", x.view(0, 2), 1);
        due.is("reach", x.view(0, 3), 0);
        due.is("reach", x.view(30, 18), 1);
        due.is("reach", x.view(30, 12), 0);
        x.ask(1, 5);
        x.build(2, 0, true);
        due.is("a wall", x.view(0, 2), 1);
        due.is("from a wall", x.view(2, 0), 1);
        due.is("itself", x.view(2, 2), 1);
        due.is("behind a wall", x.view(0, 3), 0);
        due.is("behind a wall", x.view(3, 0), 0);
        due.is("behind a wall", x.view(1, 5), 0);
        due.is("down from a wall", x.view(2, 32), 1);
        due.is("no line", x.view(5, 6), 0);
        due.is("square", x.view(-1, 0), -6);
        due.is("square", x.view(0, -1), -6);
        due.is("square", x.view(36, 0), -6);
        due.is("square", x.view(0, 36), -6);
    }

    private static void looksAndNearness() {
        TaxOnLooks x = new TaxOnLooks();
        x.person(0, 0, 1, 2, 0, 0);
        x.person(0, 0, 5, 0, 0, 3);
        x.person(0, 0, 6, 9, 0, 18);
        due.is("5 is not above 2 and 3", x.glances(0, 1), 4);
        due.is("nobody looks at shame", x.glances(0, 0), 0);
        due.is("looked at", x.glances(1, 0), 0);
        due.is("looked at", x.glances(2, 0), 1);
        x.put(1, 2);
        due.is("nearer", x.glances(0, 1), 6);
        x.put(1, 0);
        due.is("at one square", x.glances(0, 1), 6);
        due.is("back at the same square", x.glances(1, 1), 5);
        x.ask(2, 1);
        due.is("in rain", x.glances(0, 1), 0);
        x.ask(2, 0);
        x.sack(0, true);
        due.is("a sack looks out", x.glances(0, 1), 6);
        due.is("and isn't looked at", x.glances(0, 0), 0);
        due.is("nobody", x.glances(3, 0), -1);
        due.is("nobody first", x.glances(-1, 5), -1);
        due.is("what", x.glances(0, 2), -5);
        due.is("what", x.glances(0, -1), -5);
    }

    private static void kinds() {
        for (int kind = 0; kind < 7; kind++) {
            TaxOnLooks x = new TaxOnLooks();
            x.person(kind, 0, 0, 0, 0, 14);
            x.person(0, 0, 20, 9, 0, 13);
            x.person(0, 0, 20, 9, 0, 2);
            int looks = kind == 3 || kind == 5 ? 0 : kind == 4 || kind == 6 ? 2 : 6;
            due.is("kind " + kind, x.glances(0, 1), looks);
            due.is("looked at", x.glances(1, 0) & 1, looks >> 1 & 1);
            due.is("looked at", x.glances(2, 0) & 1, looks >> 2 & 1);
        }
    }

    private static void lovers() {
        for (int kind = 4; kind < 7; kind += 2) {
            TaxOnLooks x = new TaxOnLooks();
            x.person(0, 0, 10, 9, 0, 20);
            x.person(0, 0, 12, 9, 0, 24);
            x.person(0, 0, 12, 9, 0, 2);
            x.person(kind, 0, 0, 1, 0, 0);
            due.is("nearest", x.glances(3, 1), 4);
            x.put(0, 12);
            due.is("the greater show", x.glances(3, 1), 4);
            x.put(1, 12);
            due.is("the first", x.glances(3, 1), 2);
            x.put(0, 1);
            due.is("nearer, of less show", x.glances(3, 1), 1);
            x.sack(0, true);
            due.is("only one he would glance at", x.glances(3, 1), 2);
            x.person(0, 0, 2, 9, 0, 6);
            due.is("no one too plain", x.glances(3, 1), 2);
            due.is("looked at", x.glances(1, 0) & 8, 8);
            due.is("not looked at", x.glances(2, 0) & 8, 0);
        }
    }

    private static void entered() {
        TaxOnLooks x = new TaxOnLooks();
        x.person(0, 0, 0, 0, 0, 0);
        x.person(0, 0, 20, 9, 0, 3);
        due.is("not entered", x.duty(1, 0), 0);
        x.build(0, 1, true);
        due.is("entered", x.duty(1, 0), 1);
        x.build(0, 1, false);
        x.build(35, 1, true);
        due.is("no view", x.duty(1, 0), 0);
        x.build(33, 1, true);
        due.is("in view", x.duty(1, 0), 1);
        due.is("fine", x.duty(0, 1), 1);
        x.build(9, 0, true);
        due.is("a wall between", x.duty(1, 0), 0);
        x.build(9, 1, true);
        due.is("a balcony on the wall", x.duty(1, 0), 1);
        x.build(9, 1, false);
        x.build(3, 1, true);
        due.is("where he is", x.duty(1, 0), 1);
        due.is("he looks at nobody", x.duty(1, 1), 0);
        due.is("nobody looks at him", x.duty(0, 0), 0);
        due.is("nobody", x.duty(2, 9), -1);
        due.is("nobody", x.duty(-1, 0), -1);
        due.is("what", x.duty(0, 2), -5);
        due.is("what", x.duty(0, -1), -5);
    }

    private static void duties() {
        TaxOnLooks x = Due.townOf("balcony 0;person 2 0 9 9 9 0;person 5 0 20 0 0 0;"
                + "person 0 0 0 0 0 0;person 0 0 0 0 0 1");
        int[] less = {2, 4, 6, 8, 9, 11, 13, 15, 16};
        for (int mite = 1; mite <= 9; mite++) {
            x.ask(0, mite);
            due.is("a ninth less of " + 2 * mite, x.duty(0, 0), less[mite - 1]);
            due.is("child", x.duty(1, 0), 0);
            due.is("fine", x.duty(2, 1), 2 * mite);
            due.is("fine", x.duty(3, 1), 2 * mite);
            due.is("a child pays no fine", x.duty(1, 1), 0);
        }
        due.is("the child is looked at", x.glances(1, 0), 13);
    }

    private static void together() {
        TaxOnLooks x = Due.townOf("balcony 0;mite 5;person 2 0 9 9 9 0;person 1 0 20 9 10 0;"
                + "person 0 0 0 0 0 0;person 0 0 0 0 0 1");
        due.is("duty", x.duty(0, 0), 14);
        due.is("duty", x.duty(1, 0), 15);
        due.is("duties", x.all(0), 29);
        due.is("fines", x.all(1), 30);
        due.is("ruined", x.all(2), 3);
        due.is("solvent", x.all(3), 2);
        x.ask(0, 3);
        due.is("all that is in the purse is no ruin", x.duty(0, 0), 8);
        due.is("ruined", x.all(2), 0);
        due.is("what", x.all(4), -5);
        due.is("what", x.all(-1), -5);
        due.is("nobody is ruined", new TaxOnLooks().all(2), 0);
        due.is("nobody is solvent", new TaxOnLooks().all(3), 0);
    }
}
