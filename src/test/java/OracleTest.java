import java.util.Random;

/** Many towns and texts by chance: the program against the naive reading of the document. */
final class OracleTest {
    private static final Due due = new Due("OracleTest");

    public static void main(String[] args) {
        for (int seed = 0; seed < 1500; seed++) {
            Random chance = new Random(seed);
            TaxOnLooks x = new TaxOnLooks();
            Naive n = new Naive();
            settle(x, n, chance);
            glancesAndAll(x, n);
            plans(x, n, chance);
            crowdAndMost(x, n);
            fits(x, n, chance);
            strolls(x, n, chance);
            hours(x, n, chance);
        }
        for (int seed = 0; seed < 4000; seed++) {
            texts(new Random(seed));
        }
        due.end();
    }

    private static void settle(TaxOnLooks x, Naive n, Random chance) {
        int mite = 1 + chance.nextInt(9);
        int reach = 1 + chance.nextInt(5);
        x.ask(0, mite);
        x.ask(1, reach);
        n.mite = mite;
        n.reach = reach;
        n.rain = chance.nextInt(4) == 0;
        x.ask(2, n.rain ? 1 : 0);
        int walls = chance.nextInt(16);
        for (int i = 0; i < walls; i++) {
            int s = chance.nextInt(36);
            n.wall[s] = true;
            x.build(s, 0, true);
        }
        int balconies = chance.nextInt(7);
        for (int i = 0; i < balconies; i++) {
            int s = chance.nextInt(36);
            n.balcony[s] = true;
            x.build(s, 1, true);
        }
        int near = chance.nextBoolean() ? 36 : 10;
        for (int tries = 0; tries < 9; tries++) {
            int[] v = {chance.nextInt(7), chance.nextInt(10), chance.nextInt(21), chance.nextInt(5),
                chance.nextInt(60), chance.nextInt(near)};
            int answer = x.person(v[0], v[1], v[2], v[3], v[4], v[5]);
            int size = n.people.size();
            due.is("person", answer, n.wall[v[5]] ? -6 : size == 7 ? -7 : size);
            if (answer >= 0) {
                Naive.One p = new Naive.One();
                p.kind = v[0];
                p.a = v[1];
                p.looks = v[2];
                p.shame = v[3];
                p.purse = v[4];
                p.at = v[5];
                p.sacked = chance.nextInt(6) == 0;
                x.sack(answer, p.sacked);
                n.people.add(p);
            }
            if (chance.nextInt(12) == 0) {
                break;
            }
        }
    }

    private static void glancesAndAll(TaxOnLooks x, Naive n) {
        int fines = 0;
        int ruined = 0;
        int solvent = 0;
        for (int i = 0; i < n.people.size(); i++) {
            Naive.One p = n.people.get(i);
            int at = 0;
            int by = 0;
            for (int j = 0; j < n.people.size(); j++) {
                by |= n.glances(n.people.get(j), p) ? 1 << j : 0;
                at |= n.glances(p, n.people.get(j)) ? 1 << j : 0;
            }
            due.is("looked at", x.glances(i, 0), by);
            due.is("looks", x.glances(i, 1), at);
            due.is("duty", x.duty(i, 0), n.duty(p));
            due.is("fine", x.duty(i, 1), n.mite * n.entered(p, null));
            due.is("show", x.personOf(i, 7), n.show(p));
            fines += n.mite * n.entered(p, null);
            ruined |= n.duty(p) > p.purse ? 1 << i : 0;
            solvent += n.duty(p) == 0 ? 1 : 0;
        }
        due.is("duties", x.all(0), n.duties());
        due.is("fines", x.all(1), fines);
        due.is("ruined", x.all(2), ruined);
        due.is("solvent", x.all(3), solvent);
    }

    private static void plans(TaxOnLooks x, Naive n, Random chance) {
        if (!n.people.isEmpty()) {
            int who = chance.nextInt(n.people.size());
            for (int i = 0; i < 3; i++) {
                int to = chance.nextInt(36);
                int[] way = n.walk(who, to);
                for (int what = 0; what < 3; what++) {
                    due.is("walk", x.walk(who, to, what), n.wall[to] ? -16 : way[what]);
                }
            }
            stand(x, n, who);
        }
        for (int k = 0; k <= 3; k++) {
            sacks(x, n, k);
        }
        balconies(x, n);
    }

    private static void stand(TaxOnLooks x, Naive n, int who) {
        Naive c = n.copy();
        int best = -1;
        int least = Integer.MAX_VALUE;
        for (int s = 0; s < 36; s++) {
            c.people.get(who).at = s;
            if (!c.wall[s] && c.duty(c.people.get(who)) < least) {
                best = s;
                least = c.duty(c.people.get(who));
            }
        }
        due.is("stand", x.stand(who, 0), best);
        due.is("duty there", x.stand(who, 1), least);
    }

    private static void sacks(TaxOnLooks x, Naive n, int k) {
        int best = -1;
        int least = Integer.MAX_VALUE;
        for (int bits = 0; bits < 1 << n.people.size(); bits++) {
            if (Integer.bitCount(bits) == k) {
                Naive c = n.copy();
                for (int i = 0; i < c.people.size(); i++) {
                    c.people.get(i).sacked |= (bits >> i & 1) != 0;
                }
                if (c.duties() < least) {
                    best = bits;
                    least = c.duties();
                }
            }
        }
        due.is("sacks", x.sacks(k, 0), best);
        due.is("sum", x.sacks(k, 1), best < 0 ? -1 : least);
    }

    private static void balconies(TaxOnLooks x, Naive n) {
        int best = -1;
        int most = -1;
        for (int s = 0; s < 36; s++) {
            Naive c = n.copy();
            c.balcony[s] = true;
            if (c.entered(null, null) > most) {
                best = s;
                most = c.entered(null, null);
            }
        }
        due.is("balcony", x.balconies(0), best);
        due.is("entered", x.balconies(1), most);
    }

    private static void crowdAndMost(TaxOnLooks x, Naive n) {
        int best = -1;
        int most = -1;
        int lit = 0;
        for (int s = 0; s < 36; s++) {
            int seers = 0;
            for (Naive.One p : n.people) {
                seers += !Naive.under(p.kind, 3) && n.inView(p.at, s) ? 1 : 0;
            }
            if (seers > most) {
                best = s;
                most = seers;
            }
            lit += n.lit(s) ? 1 : 0;
        }
        due.is("crowd", x.crowd(0), best);
        due.is("lit", x.crowd(1), lit);
        int mend = -1;
        int without = -1;
        int least = Integer.MAX_VALUE;
        for (int i = 0; i < n.people.size(); i++) {
            if (mend < 0 || n.duty(n.people.get(i)) > n.duty(n.people.get(mend))) {
                mend = i;
            }
            n.people.get(i).gone = true;
            if (n.duties() < least) {
                without = i;
                least = n.duties();
            }
            n.people.get(i).gone = false;
        }
        due.is("mend", x.most(0), mend < 0 ? -5 : mend);
        due.is("without", x.most(1), without < 0 ? -5 : without);
    }

    private static void fits(TaxOnLooks x, Naive n, Random chance) {
        if (n.people.isEmpty()) {
            return;
        }
        int who = chance.nextInt(n.people.size());
        int told = chance.nextInt(21);
        int[] duties = new int[n.people.size()];
        Naive c = n.copy();
        c.people.get(who).looks = told;
        for (int i = 0; i < duties.length; i++) {
            duties[i] = c.duty(c.people.get(i));
        }
        int want = 0;
        for (int looks = 0; looks <= 20; looks++) {
            c.people.get(who).looks = looks;
            boolean fit = true;
            for (int i = 0; i < duties.length; i++) {
                fit &= c.duty(c.people.get(i)) == duties[i];
            }
            want |= fit ? 1 << looks : 0;
        }
        Due.tell(x, 0, duties);
        due.is("fits", x.fits(0, who), want);
    }

    private static void strolls(TaxOnLooks x, Naive n, Random chance) {
        for (int round = 0; round < 4; round++) {
            int[] told = new int[chance.nextInt(9)];
            for (int i = 0; i < told.length; i++) {
                told[i] = 10 * chance.nextInt(n.people.size() + 1)
                        + chance.nextInt(chance.nextInt(9) == 0 ? 10 : 4);
            }
            Naive c = n.copy();
            int wrong = -1;
            for (int i = 0; i < told.length && wrong < 0; i++) {
                if (c.step(told[i] / 10, told[i] % 10)) {
                    c.pay(c.people.get(told[i] / 10));
                } else {
                    wrong = i;
                }
            }
            Due.tell(x, 0, told);
            due.is("judge", x.judge(0, told.length), wrong);
            int sure = wrong < 0 ? told.length : wrong;
            due.is("paid", x.behind(0, sure, 0), c.taken - n.taken);
            due.is("where", x.behind(0, sure, 1), c.people.isEmpty() ? -5 : c.people.get(0).at);
            long empty = c.people.stream().filter(p -> p.purse == 0).count();
            due.is("empty", x.behind(0, sure, 2), empty);
            if (wrong >= 0) {
                due.is("wrong", x.behind(0, told.length, 0), -6);
                due.is("wrong", x.done(0, told.length), -6);
            }
            compare(x, n);
            due.is("done", x.done(0, sure), c.taken);
            c.hours++;
            n.people = c.people;
            n.taken = c.taken;
            n.hours = c.hours;
            compare(x, n);
        }
    }

    private static void hours(TaxOnLooks x, Naive n, Random chance) {
        n.seed = chance.nextInt();
        x.seed(n.seed);
        for (int round = 0; round < 2; round++) {
            int hours = 1 + chance.nextInt(12);
            for (int i = 0; i < hours; i++) {
                n.hour();
            }
            due.is("hours", x.hours(hours), n.taken);
            compare(x, n);
        }
    }

    private static void compare(TaxOnLooks x, Naive n) {
        int purses = 0;
        for (int i = 0; i < n.people.size(); i++) {
            Naive.One p = n.people.get(i);
            int[] told = {p.kind, p.a, p.looks, p.shame, p.purse, p.at, p.sacked ? 1 : 0};
            for (int what = 0; what < told.length; what++) {
                due.is("person " + what, x.personOf(i, what), told[what]);
            }
            purses += p.purse;
        }
        int walls = 0;
        int balconies = 0;
        for (int s = 0; s < 36; s++) {
            due.is("wall", x.squareOf(s, 0), n.wall[s] ? 1 : 0);
            due.is("balcony", x.squareOf(s, 1), n.balcony[s] ? 1 : 0);
            walls += n.wall[s] ? 1 : 0;
            balconies += n.balcony[s] ? 1 : 0;
        }
        int[] told = {n.people.size(), walls, balconies, n.mite, n.reach, n.rain ? 1 : 0, n.hours,
            n.taken, purses, n.seed};
        for (int what = 0; what < told.length; what++) {
            due.is("status " + what, x.status(what), told[what]);
        }
    }

    private static void texts(Random chance) {
        TaxOnLooks x = new TaxOnLooks();
        Naive n = new Naive();
        settle(x, n, chance);
        StringBuilder text = new StringBuilder();
        int items = 1 + chance.nextInt(6);
        for (int i = 0; i < items; i++) {
            text.append(i == 0 ? "" : ";").append(item(chance));
        }
        int slips = chance.nextInt(3) == 0 ? 1 + chance.nextInt(2) : 0;
        for (int i = 0; i < slips; i++) {
            slip(text, chance);
        }
        text.setLength(Math.min(text.length(), 160));
        Naive c = n.copy();
        int fault = c.read(text.toString());
        Due.write(x, 0, text.toString());
        long count = text.chars().filter(letter -> letter == ';').count() + 1;
        due.is("town '" + text + "'", x.town(0), fault < 0 ? count : -6);
        due.is("fault '" + text + "'", x.fault(), fault);
        compare(x, fault < 0 ? c : n);
    }

    private static String item(Random chance) {
        String[] words = {"wall", "gap", "balcony", "person", "person", "sack", "mite", "reach"};
        int[] most = {36, 36, 36, 0, 0, 5, 10, 6};
        int w = chance.nextInt(words.length);
        StringBuilder item = new StringBuilder(words[w]);
        int[] below = words[w].equals("person") ? new int[] {7, 10, 21, 10, 100, 36} : new int[] {most[w]};
        for (int b : below) {
            int v = chance.nextInt(25) == 0 ? b + chance.nextInt(3) : chance.nextInt(b);
            item.append(' ').append(v < 10 && chance.nextInt(5) == 0 ? "0" : "").append(v);
        }
        return item.toString();
    }

    private static void slip(StringBuilder text, Random chance) {
        String signs = " ;0123456789wgbpsmrx";
        int place = chance.nextInt(text.length());
        char sign = signs.charAt(chance.nextInt(signs.length()));
        switch (chance.nextInt(4)) {
            case 0: text.setCharAt(place, sign); break;
            case 1: text.insert(place, sign); break;
            case 2: text.setLength(Math.max(1, place)); break;
            default:
                if (text.length() > 1) {
                    text.deleteCharAt(place);
                }
        }
    }
}
