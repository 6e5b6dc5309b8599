/** Promises 29 to 32: told strolls, judged, tried and done, and hours by draws. */
final class StrollTest {
    private static final Due due = new Due("StrollTest");

    public static void main(String[] args) {
        judged();
        judgeRefusals();
        behind();
        behindRefusals();
        done();
        hours();
        due.end();
    }

    private static void judged() {
        int[] corners = {0, 5, 35, 30};
        int[][] off = {{0, 3}, {0, 1}, {1, 2}, {2, 3}};
        for (int c = 0; c < 4; c++) {
            TaxOnLooks x = new TaxOnLooks();
            x.person(0, 0, 0, 0, 0, corners[c]);
            for (int way = 0; way < 4; way++) {
                Due.tell(x, 0, way);
                boolean wrong = way == off[c][0] || way == off[c][1];
                due.is("corner " + corners[c] + " way " + way, x.judge(0, 1), wrong ? 0 : -1);
            }
        }
        TaxOnLooks x = Due.townOf("person 0 0 0 0 0 14;person 0 0 0 0 0 14;wall 9");
        judge(x, -1, 0, 1 + 10, 12, 13, 3);
        judge(x, 1, 0, 1);
        judge(x, 1, 11, 10, 10);
        judge(x, 2, 0, 10, 1);
        judge(x, 0, 20);
        judge(x, 0, 4);
        judge(x, 1, 13, 19);
        judge(x, 0, -1);
        judge(x, 0, -10);
        judge(x, 0, Integer.MIN_VALUE);
        judge(x, 0, Integer.MAX_VALUE);
        Due.tell(x, 0, 0, 1);
        due.is("by the first only", x.judge(0, 1), -1);
        due.is("by none", x.judge(0, 0), -1);
        due.is("nobody walked", x.personOf(0, 5), 14);
        int[] far = new int[40];
        for (int i = 0; i < 40; i++) {
            far[i] = i % 2 == 0 ? 2 : 0;
        }
        judge(x, -1, far);
        far[39] = 3 + 20;
        judge(x, 39, far);
        due.is("nothing refused", x.status(16), 0);
    }

    private static void judge(TaxOnLooks x, int want, int... told) {
        Due.tell(x, 0, told);
        due.is("judge", x.judge(0, told.length), want);
    }

    private static void judgeRefusals() {
        TaxOnLooks x = new TaxOnLooks();
        x.person(0, 0, 0, 0, 0, 0);
        x.show(1, 0);
        x.row(2, 0, 41);
        due.is("no shelf", x.judge(8, -1), -11);
        due.is("no shelf", x.judge(-1, 0), -11);
        due.is("person", x.judge(1, -1), -12);
        due.is("nothing", x.judge(0, -1), -13);
        due.is("below", x.judge(2, -1), -14);
        due.is("fewer", x.judge(2, 42), -15);
        due.is("above 40", x.judge(2, 41), -16);
        int[] counted = {2, 1, 1, 1, 1, 1, 0};
        for (int i = 0; i < 7; i++) {
            due.is("counted " + (i + 1), x.status(11 + i), counted[i]);
        }
    }

    private static TaxOnLooks street() {
        TaxOnLooks x = Due.townOf("mite 2;balcony 1;person 0 0 20 0 5 0;person 0 0 0 0 9 2;"
                + "person 3 0 0 0 0 35");
        Due.tell(x, 0, 1, 12, 3, 2, 0);
        return x;
    }

    private static void behind() {
        TaxOnLooks x = street();
        // 0 comes to 1 in sight of 1: 2 paid; 1 comes to 8 and owes nothing; 0 comes to 0, to 6
        // (no line to 8, none to a balcony) and to 0 again, unseen: 2 together.
        int[] paid = {0, 2, 2, 2, 2, 2};
        int[] where = {0, 1, 1, 0, 6, 0};
        for (int n = 0; n <= 5; n++) {
            due.is("paid", x.behind(0, n, 0), paid[n]);
            due.is("where", x.behind(0, n, 1), where[n]);
            due.is("empty", x.behind(0, n, 2), 1);
        }
        Due.tell(x, 0, 1, 3, 1, 3);
        int[] more = {0, 2, 4, 5, 5};
        for (int n = 0; n <= 4; n++) {
            due.is("as much as is in it", x.behind(0, n, 0), more[n]);
            due.is("empty", x.behind(0, n, 2), n < 3 ? 1 : 2);
        }
        due.is("nothing is changed", x.personOf(0, 4), 5);
        due.is("nothing is changed", x.personOf(0, 5), 0);
        due.is("nothing is changed", x.status(7) + x.status(6), 0);
    }

    private static void behindRefusals() {
        TaxOnLooks x = new TaxOnLooks();
        x.row(2, 0, 41);
        due.is("nobody is there", x.behind(2, 0, 1), -5);
        due.is("nothing is paid", x.behind(2, 0, 0), 0);
        due.is("nobody's purse is empty", x.behind(2, 0, 2), 0);
        due.is("wrong", x.behind(2, 1, 0), -6);
        x.person(0, 0, 0, 0, 0, 0);
        x.show(1, 0);
        due.is("no shelf", x.behind(8, -1, 3), -1);
        due.is("no shelf", x.behind(-1, 0, 0), -1);
        due.is("person", x.behind(1, -1, 3), -2);
        due.is("nothing", x.behind(0, -1, 3), -3);
        due.is("below", x.behind(2, -1, 3), -4);
        due.is("what", x.behind(2, 41, 3), -5);
        due.is("what", x.behind(2, 0, -1), -5);
        due.is("fewer", x.behind(2, 42, 0), -5);
        due.is("above 40", x.behind(2, 41, 0), -6);
        due.is("wrong", x.behind(2, 1, 1), -6);
        due.is("done no shelf", x.done(8, -1), -1);
        due.is("done no shelf", x.done(-1, -1), -1);
        due.is("done person", x.done(1, -1), -2);
        due.is("done nothing", x.done(0, -1), -3);
        due.is("done below", x.done(2, -1), -4);
        due.is("done fewer", x.done(2, 42), -5);
        due.is("done above 40", x.done(2, 41), -6);
        due.is("done wrong", x.done(2, 1), -6);
        due.is("no hour", x.status(6), 0);
    }

    private static void done() {
        TaxOnLooks x = street();
        due.is("taken", x.done(0, 5), 2);
        due.is("purse", x.personOf(0, 4), 3);
        due.is("at", x.personOf(0, 5), 0);
        due.is("at", x.personOf(1, 5), 8);
        due.is("hours", x.status(6), 1);
        due.is("taken", x.status(7), 2);
        due.is("none", x.done(0, 0), 2);
        due.is("an hour all the same", x.status(6), 2);
        x.put(1, 2);
        Due.tell(x, 0, 1, 3, 1, 3);
        due.is("taken", x.done(0, 4), 5);
        due.is("purse", x.personOf(0, 4), 0);
        due.is("hours", x.status(6), 3);
        Due.tell(x, 0, 1, 19);
        due.is("wrong", x.done(0, 2), -6);
        due.is("nothing of it", x.personOf(0, 5), 0);
        due.is("no hour", x.status(6), 3);
        due.is("behind it only what is paid there", x.behind(0, 1, 0), 0);
    }

    private static void hours() {
        TaxOnLooks x = street();
        int seed = 1;
        int rained = 0;
        for (int n = 1; n <= 5; n++) {
            x.build(1, 1, false);
            x.hours(n);
            for (int hour = 0; hour < n; hour++) {
                seed = seed * 1103515245 + 12345;
                rained = (seed >>> 16) % 4 == 0 ? 1 : 0;
                for (int i = 0; i < 3; i++) {
                    seed = seed * 1103515245 + 12345;
                }
            }
            due.is("seed", x.status(9), seed);
            due.is("rain", x.status(5), rained);
        }
        due.is("hours", x.status(6), 15);
        due.is("taken", x.status(7), 0);
        due.is("n", x.hours(0), -6);
        due.is("n", x.hours(-1), -6);
        due.is("n", x.hours(41), -6);
        due.is("hours", x.status(6), 15);
        x.hours(40);
        due.is("hours", x.status(6), 55);
        TaxOnLooks y = new TaxOnLooks();
        due.is("nobody", y.hours(2), 0);
        due.is("two draws", y.status(9), (1103515245 + 12345) * 1103515245 + 12345);
    }
}
