/** Promises 16 and 17: towns read from texts, and the fault. */
final class ReadTest {
    private static final Due due = new Due("ReadTest");

    public static void main(String[] args) {
        items();
        refusals();
        faults();
        room();
        overWhatThereIs();
        sorts();
        due.end();
    }

    private static void items() {
        TaxOnLooks x = new TaxOnLooks();
        read(x, "wall 7;gap 7;wall 08;balcony 8;balcony 35;person 2 9 20 9 99 0;"
                + "person 6 0 0 1 2 35;sack 1;mite 09;reach 1", 10, -1);
        due.is("gap", x.squareOf(7, 0), 0);
        due.is("wall", x.squareOf(8, 0), 1);
        due.is("balcony", x.squareOf(8, 1), 1);
        due.is("balcony", x.squareOf(35, 1), 1);
        int[][] told = {{2, 9, 20, 9, 99, 0, 0}, {6, 0, 0, 1, 2, 35, 1}};
        for (int i = 0; i < 2; i++) {
            for (int what = 0; what < 7; what++) {
                due.is("person " + i + " " + what, x.personOf(i, what), told[i][what]);
            }
        }
        due.is("mite", x.status(3), 9);
        due.is("reach", x.status(4), 1);
        read(x, "gap 1", 1, -1);
        read(x, "wall 8", 1, -1);
        read(x, "balcony 8", 1, -1);
        due.is("walls", x.status(1), 1);
        due.is("balconies", x.status(2), 2);
    }

    private static void refusals() {
        TaxOnLooks x = new TaxOnLooks();
        read(x, "mite", -6, 4);
        due.is("no shelf", x.town(8), -1);
        due.is("no shelf", x.town(-1), -1);
        due.is("nothing", x.town(1), -3);
        x.person(0, 0, 0, 0, 0, 0);
        x.show(2, 0);
        due.is("person", x.town(2), -2);
        due.is("the fault is that of the latest row", x.fault(), 4);
        read(x, "mite 2", 1, -1);
    }

    private static void faults() {
        String people = "person 0 0 0 0 0 3;";
        String[] texts = {"", "x", " mite 1", "mit", "mitx 1", "mite", "mite1", "mite  1", "mite ",
            "mite x", "mite 1 ", "mite 1x", "mite 1;", "mite 1;;", "mite 1; mite 2", "mite 0",
            "mite 00", "mite 10", "mite 123", "mite 091", "reach 0", "reach 6", "reach 5,", "wall 36",
            "wall 355", "wall -1", "gap 99", "balcony 36", "Wall 1", "person 7", "person 7 x",
            "person 0 10", "person 0 0 21", "person 0 0 0 10", "person 0 0 0 0 99 36",
            "person 0 0 0 0 100 0", "person 0 0 0 0 0", "person 0 0 0 0 0 ", "person 0 0 0 0 0 0 0",
            "person 0,0", "wall 3;person 0 0 0 0 0 3", "sack 0", "sack", people + "wall 3",
            people + "wall 03;x", people + "sack 1", people + "sack 01", people + "sack 0;sack 2x",
            "mite 0;x", "mite 0x", "reach 5;mite 5;rain 1", "gap 36"};
        int[] places = {0, 0, 0, 3, 3, 4, 4, 5, 5,
            5, 6, 6, 7, 7, 7, 5,
            5, 5, 5, 7, 6, 6, 7, 5,
            7, 5, 4, 8, 0, 7, 7,
            9, 11, 13, 18,
            17, 16, 17, 18,
            8, 24, 5, 4, 24,
            24, 24, 24, 31,
            5, 5, 16, 4};
        due.is("texts", texts.length, places.length);
        for (int i = 0; i < texts.length; i++) {
            TaxOnLooks x = new TaxOnLooks();
            x.ask(0, 7);
            read(x, texts[i], -6, places[i]);
            due.is("nothing told by " + texts[i], x.status(0) + x.status(1) + x.status(2), 0);
            due.is("mite still", x.status(3), 7);
            due.is("reach still", x.status(4), 5);
            due.is("wrong", x.status(16), 1);
        }
    }

    private static void room() {
        TaxOnLooks x = new TaxOnLooks();
        for (int i = 0; i < 6; i++) {
            x.person(0, 0, 0, 0, 0, 0);
        }
        String one = "person 0 0 0 0 0 0";
        read(x, one + ";" + one, -6, 19);
        due.is("none of them", x.status(0), 6);
        read(x, one, 1, -1);
        read(x, one, -6, 0);
        read(x, "person", -6, 0);
        read(x, "personx", -6, 0);
        read(x, "mite 1;person", -6, 7);
        read(x, "perso", -6, 5);
        read(x, "persox", -6, 5);
        read(x, "mite 1;pers", -6, 11);
    }

    private static void overWhatThereIs() {
        TaxOnLooks x = new TaxOnLooks();
        x.person(0, 0, 0, 0, 0, 3);
        x.build(4, 0, true);
        read(x, "wall 3", -6, 5);
        read(x, "person 0 0 0 0 0 4", -6, 17);
        read(x, "gap 4;person 0 0 0 0 0 4;sack 1", 3, -1);
        due.is("in a sack", x.personOf(1, 6), 1);
        due.is("two", x.status(0), 2);
        read(x, "sack 0;sack 1;sack 1", 3, -1);
        read(x, "wall 5;person 0 0 0 0 0 6;wall 6", -6, 31);
        due.is("no wall", x.squareOf(5, 0), 0);
        due.is("two", x.status(0), 2);
    }

    private static void sorts() {
        TaxOnLooks x = new TaxOnLooks();
        String text = "mite 8";
        for (int sort = 0; sort < 4; sort++) {
            x.row(0, sort, text.length());
            long high = sort == 3 ? 5L << 32 : 0;
            for (int i = 0; i < text.length(); i++) {
                x.set(0, i, text.charAt(i) + high);
            }
            due.is("sort " + sort, x.town(0), 1);
            x.set(0, 2, 't' + 256);
            due.is("256 more", x.town(0), sort == 0 ? 1 : -6);
            due.is("fault", x.fault(), sort == 0 ? -1 : 2);
        }
        StringBuilder full = new StringBuilder("balcony 10");
        while (full.length() < 150) {
            full.append(";mite 2");
        }
        full.append(";balcony 9");
        due.is("a full row", full.length(), 160);
        read(x, full.toString(), 22, -1);
    }

    private static void read(TaxOnLooks x, String text, int items, int fault) {
        Due.write(x, 0, text);
        due.is("town of '" + text + "'", x.town(0), items);
        due.is("fault of '" + text + "'", x.fault(), fault);
    }
}
