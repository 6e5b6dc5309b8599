/** The edges that the document names of promises 16 and 17: towns read from texts, and the fault. */
final class Promises16To17EdgesTest {
    private static final String ONE = "person 0 0 0 0 0 3";

    public static void main(String[] args) throws IllegalAccessException {
        Edges.run(Promises16To17EdgesTest.class, 16, 17);
    }

    private static void people(TaxOnLooks x, int n) {
        for (int i = 0; i < n; i++) {
            x.person(0, 0, 0, 0, 0, 3);
        }
    }

    static void promise16NoRow(Edge e) {
        e.given(x -> {
            people(x, 1);
            x.show(1, 0);
        });
        e.refused(-1, x -> x.town(-1));
        e.refused(-1, x -> x.town(8));
        e.refused(-1, x -> x.town(Edge.LEAST));
        e.refused(-1, x -> x.town(Edge.MOST));
        e.refused(-2, x -> x.town(1));
        e.refused(-3, x -> x.town(0));
    }

    static void promise16OneItemAndSeveral(Edge e) {
        e.reads(1, "mite 2");
        e.reads(2, "mite 2;mite 2");
        e.reads(7, "wall 1;gap 1;balcony 1;" + ONE + ";sack 0;mite 2;reach 2");
    }

    static void promise16EmptyRow(Edge e) {
        e.faults(0, "");
    }

    static void promise16FullRow(Edge e) {
        StringBuilder text = new StringBuilder("wall 1");
        while (text.length() < 160) {
            text.append(";mite 2");
        }
        e.is(160, text.length());
        e.reads(23, text.toString());
        e.faults(159, text.substring(0, 159) + "x");
        e.faults(159, text.substring(0, 159) + "0");
        e.faults(160, text.toString().replace("wall", "gap") + ";");
        TaxOnLooks x = e.x();
        Due.write(x, 0, text.toString());
        x.town(0);
        e.is(1, x.squareOf(1, 0));
        e.is(2, x.status(3));
    }

    static void promise16SquaresOfWallGapAndBalcony(Edge e) {
        for (String word : new String[] {"wall ", "gap ", "balcony "}) {
            int digit = word.length();
            e.reads(1, word + "0");
            e.reads(1, word + "9");
            e.reads(1, word + "35");
            e.faults(digit, word + "36");
            e.faults(digit, word + "99");
            e.faults(digit + 2, word + "350");
            e.faults(digit + 2, word + "100");
        }
    }

    static void promise16WallWhereSomebodyIs(Edge e) {
        e.given(x -> people(x, 1));
        e.faults(5, "wall 3");
        e.reads(1, "wall 2");
        e.reads(1, "gap 3");
        e.reads(1, "balcony 3");
        e.faults(24, "person 0 0 0 0 0 4;wall 4");
        e.reads(2, "person 0 0 0 0 0 4;wall 5");
    }

    static void promise16GapIsNoWall(Edge e) {
        e.given("wall 4;balcony 4");
        TaxOnLooks x = e.x();
        Due.settle(x, 0, "gap 4");
        e.is(0, x.squareOf(4, 0));
        e.is(1, x.squareOf(4, 1));
        Due.settle(x, 0, "gap 4;wall 4;wall 4");
        e.is(1, x.squareOf(4, 0));
    }

    static void promise16NumbersOfAPerson(Edge e) {
        int[] most = {6, 9, 20, 9, 99, 35};
        for (int place = 0; place < most.length; place++) {
            for (int v : new int[] {0, most[place], most[place] + 1}) {
                StringBuilder text = new StringBuilder("person");
                int at = 0;
                for (int i = 0; i < most.length; i++) {
                    at = i == place ? text.length() + 1 : at;
                    text.append(' ').append(i == place ? v : 0);
                }
                if (v <= most[place]) {
                    e.reads(1, text.toString());
                } else {
                    // 100 has a digit too many, the others' numbers may not be.
                    e.faults(v == 100 ? at + 2 : at, text.toString());
                }
            }
        }
        TaxOnLooks x = e.x();
        Due.settle(x, 0, "person 6 9 20 9 99 35");
        int[] told = {6, 9, 20, 9, 99, 35, 0};
        for (int what = 0; what < told.length; what++) {
            e.is(told[what], x.personOf(0, what));
        }
    }

    static void promise16PersonAtAWall(Edge e) {
        e.given("wall 3;wall 4");
        e.faults(17, ONE);
        e.faults(17, "person 0 0 0 0 0 04");
        e.reads(2, "gap 3;" + ONE);
        e.faults(24, "wall 5;person 0 0 0 0 0 5");
    }

    static void promise16SackOfNoSuchPerson(Edge e) {
        e.faults(5, "sack 0");
        e.reads(2, ONE + ";sack 0");
        e.faults(5, "sack 0;" + ONE);
        e.given(x -> people(x, 2));
        e.reads(1, "sack 1");
        e.faults(5, "sack 2");
        e.faults(5, "sack 10");
        e.reads(2, "sack 1;sack 1");
        e.given(x -> people(x, 7));
        e.reads(1, "sack 6");
        e.faults(5, "sack 7");
    }

    static void promise16MiteAndReachLeastAndMost(Edge e) {
        e.faults(5, "mite 0");
        e.reads(1, "mite 1");
        e.reads(1, "mite 9");
        e.faults(5, "mite 10");
        e.faults(6, "reach 0");
        e.reads(1, "reach 1");
        e.reads(1, "reach 5");
        e.faults(6, "reach 6");
        e.faults(6, "reach 50");
    }

    static void promise16NumbersOf1To2Digits(Edge e) {
        e.reads(1, "wall 1");
        e.reads(1, "wall 12");
        e.reads(1, "wall 01");
        e.reads(1, "wall 00");
        e.faults(7, "wall 001");
        e.faults(7, "wall 123");
        e.faults(5, "wall ");
        e.faults(5, "wall -1");
        e.faults(5, "wall x");
        e.faults(6, "wall 1x");
    }

    static void promise16OneBlankBetween(Edge e) {
        e.faults(4, "wall");
        e.faults(4, "wall1");
        e.faults(5, "wall  1");
        e.faults(6, "wall 1 ");
        e.faults(6, "wall 1 2");
        e.faults(7, "wall 1; wall 2");
        e.faults(6, "wall 1 ;wall 2");
        e.faults(0, " wall 1");
        e.faults(8, "person 0");
        e.faults(9, "person 0  0 0 0 0 0");
        e.faults(18, "person 0 0 0 0 0 0 0");
        e.faults(17, "person 0 0 0 0 0 ");
        e.faults(16, "person 0 0 0 0 0;mite 2");
    }

    static void promise16EndsTooEarly(Edge e) {
        String text = "person 2 9 10 9 99 35;mite 2";
        for (int n = 0; n < text.length(); n++) {
            // A number's first digit alone may be a number; so here "1", "9" and "3" stand too.
            if (n != 20 && n != 21) {
                e.faults(n, text.substring(0, n));
            } else {
                e.reads(1, text.substring(0, n));
            }
        }
        e.reads(2, text);
    }

    static void promise16WordsByTheirLetters(Edge e) {
        for (String word : new String[] {"wall", "gap", "balcony", "person", "sack", "mite", "reach"}) {
            for (int n = 0; n < word.length(); n++) {
                e.faults(n, word.substring(0, n) + "X" + word.substring(n + 1) + " 1");
                e.faults(n, word.substring(0, n));
            }
            e.faults(word.length(), word + word);
        }
        e.faults(0, "ain 1");
        e.faults(1, "rain 1");
    }

    static void promise16NoRoomForAPerson(Edge e) {
        e.given(x -> people(x, 6));
        e.reads(1, ONE);
        e.faults(19, ONE + ";" + ONE);
        e.given(x -> people(x, 7));
        e.faults(0, ONE);
        e.faults(0, "person");
        e.faults(0, "personx");
        e.faults(0, "person 9 9 9");
        e.faults(7, "mite 2;" + ONE);
        e.reads(1, "mite 2");
    }

    static void promise16RoomIsAskedWhenTheWordIsWhole(Edge e) {
        e.given(x -> people(x, 7));
        e.faults(1, "p");
        e.faults(5, "perso");
        e.faults(5, "persox");
        e.faults(2, "peXson 0 0 0 0 0 0");
        e.faults(11, "mite 2;pers");
        e.faults(10, "mite 2;per 0 0 0");
    }

    static void promise16OverWhatThereIs(Edge e) {
        e.given("person 4 5 6 7 8 9;sack 0;wall 1;balcony 2;mite 3;reach 4");
        TaxOnLooks x = e.x();
        x.ask(2, 1);
        x.seed(5);
        Due.settle(x, 0, "person 0 0 0 0 0 0;wall 3;balcony 4");
        int[] status = {2, 2, 2, 3, 4, 1, 0, 0, 8, 5};
        for (int what = 0; what < status.length; what++) {
            e.is(status[what], x.status(what));
        }
        int[] told = {4, 5, 6, 7, 8, 9, 1};
        for (int what = 0; what < told.length; what++) {
            e.is(told[what], x.personOf(0, what));
        }
        e.is(0, x.personOf(1, 6));
    }

    static void promise16OrNothing(Edge e) {
        e.given("person 4 5 6 7 8 9;wall 1;balcony 2;mite 3;reach 4");
        e.faults(79, "person 0 0 0 0 0 0;wall 3;gap 1;balcony 4;mite 5;reach 1;sack 0;sack 1;"
                + "balcony 36");
    }

    static void promise16ReadAsInts(Edge e) {
        String text = "mite 8";
        for (int sort = 0; sort < 4; sort++) {
            int of = sort;
            long[] more = {256, 1L << 16, 1L << 32, 7L << 32};
            e.given(x -> {
                x.row(0, of, text.length());
                for (int i = 0; i < text.length(); i++) {
                    x.set(0, i, text.charAt(i) + more[of]);
                }
            });
            e.answers(1, x -> x.town(0));
        }
        e.given(x -> {
            x.row(0, 1, text.length());
            for (int i = 0; i < text.length(); i++) {
                x.set(0, i, text.charAt(i) + (i == 3 ? 256 : 0));
            }
        });
        TaxOnLooks x = e.x();
        e.is(-6, x.town(0));
        e.is(3, x.fault());
    }

    static void promise16ElementsBelow0(Edge e) {
        for (int sort = 0; sort < 4; sort++) {
            TaxOnLooks x = e.x();
            x.row(0, sort, 1);
            x.set(0, 0, -1);
            e.is(-6, x.town(0));
            e.is(0, x.fault());
            Due.write(x, 0, "mite 2");
            x.set(0, 5, -1);
            e.is(-6, x.town(0));
            e.is(5, x.fault());
        }
    }

    static void promise17NoneYet(Edge e) {
        e.asked(-1, x -> x.fault());
        e.given(x -> {
            people(x, 1);
            x.show(1, 0);
            x.town(0);
            x.town(1);
            x.town(8);
        });
        e.asked(-1, x -> x.fault());
    }

    static void promise17NoneThen(Edge e) {
        TaxOnLooks x = e.x();
        Due.write(x, 0, "mite 0");
        e.is(-6, x.town(0));
        e.is(5, x.fault());
        Due.write(x, 0, "mite 1");
        e.is(5, x.fault());
        e.is(1, x.town(0));
        e.is(-1, x.fault());
    }

    static void promise17LatestThatCameToARow(Edge e) {
        TaxOnLooks x = e.x();
        people(x, 1);
        x.show(1, 0);
        Due.write(x, 0, "mite 0");
        x.town(0);
        x.town(1);
        e.is(5, x.fault());
        x.town(2);
        e.is(5, x.fault());
        x.town(-1);
        e.is(5, x.fault());
        Due.write(x, 0, "wal");
        x.town(0);
        e.is(3, x.fault());
        x.row(0, 0, 0);
        x.town(0);
        e.is(0, x.fault());
    }

    static void promise17FirstOfSeveral(Edge e) {
        e.faults(5, "mite 0;x");
        e.faults(5, "mite 0x");
        e.faults(5, "mite 123");
        e.faults(7, "mite 012");
        e.faults(5, "wall 36;wall 36");
        e.faults(7, "person 7");
        e.faults(7, "person 7 10 21 10 0 36");
        e.faults(9, "person 6 10 21 10 0 36");
        e.faults(11, "person 6 9 21 10 0 36");
    }

    static void promise17NumberOfElements(Edge e) {
        e.faults(0, "");
        e.faults(1, "w");
        e.faults(4, "mite");
        e.faults(5, "mite ");
        e.faults(7, "mite 1;");
    }
}
