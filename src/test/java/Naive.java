import java.util.ArrayList;
import java.util.List;
import java.util.PriorityQueue;
import java.util.regex.Matcher;
import java.util.regex.Pattern;

/** The document's terms once more, in the most roundabout way, to compare the program with. */
final class Naive {
    static final class One {
        int kind;
        int a;
        int looks;
        int shame;
        int purse;
        int at;
        boolean sacked;
        boolean gone;
    }

    List<One> people = new ArrayList<>();
    boolean[] wall = new boolean[36];
    boolean[] balcony = new boolean[36];
    int mite = 1;
    int reach = 5;
    boolean rain;
    int hours;
    int taken;
    int seed = 1;

    Naive copy() {
        Naive c = new Naive();
        for (One p : people) {
            One q = new One();
            q.kind = p.kind;
            q.a = p.a;
            q.looks = p.looks;
            q.shame = p.shame;
            q.purse = p.purse;
            q.at = p.at;
            q.sacked = p.sacked;
            c.people.add(q);
        }
        c.wall = wall.clone();
        c.balcony = balcony.clone();
        c.mite = mite;
        c.reach = reach;
        c.rain = rain;
        c.hours = hours;
        c.taken = taken;
        c.seed = seed;
        return c;
    }

    static boolean under(int kind, int wanted) {
        int[] above = {-1, 0, 1, 0, 0, 3, 4};
        return kind >= 0 && (kind == wanted || under(above[kind], wanted));
    }

    boolean inView(int from, int to) {
        int r = from / 6;
        int c = from % 6;
        int r2 = to / 6;
        int c2 = to % 6;
        if (r != r2 && c != c2 || Math.abs(r - r2) > reach || Math.abs(c - c2) > reach) {
            return false;
        }
        for (int s = 0; s < 36; s++) {
            boolean row = r == r2 && s / 6 == r && s > Math.min(from, to) && s < Math.max(from, to);
            boolean column = c == c2 && s % 6 == c && s > Math.min(from, to) && s < Math.max(from, to);
            if (wall[s] && (row || column)) {
                return false;
            }
        }
        return true;
    }

    static int off(One p, One q) {
        return Math.abs(p.at / 6 - q.at / 6) + Math.abs(p.at % 6 - q.at % 6);
    }

    int show(One p) {
        int full = p.looks;
        if (under(p.kind, 1)) {
            full *= 2;
        }
        if (p.kind == 2) {
            full += p.a;
        }
        if (p.kind == 6) {
            full = full > p.shame ? full - p.shame : 0;
        }
        return p.sacked ? 0 : rain ? full / 2 : full;
    }

    boolean glances(One p, One q) {
        if (p.gone || q.gone || !would(p, q)) {
            return false;
        }
        if (!under(p.kind, 4)) {
            return true;
        }
        for (One r : people) {
            if (r != q && !r.gone && would(p, r) && dearer(p, r, q)) {
                return false;
            }
        }
        return true;
    }

    private boolean would(One p, One q) {
        return p != q && !under(p.kind, 3) && inView(p.at, q.at) && show(q) > p.shame + off(p, q);
    }

    private boolean dearer(One p, One r, One q) {
        if (off(p, r) != off(p, q)) {
            return off(p, r) < off(p, q);
        }
        if (show(r) != show(q)) {
            return show(r) > show(q);
        }
        return people.indexOf(r) < people.indexOf(q);
    }

    boolean lit(int square) {
        for (int s = 0; s < 36; s++) {
            if (balcony[s] && inView(s, square)) {
                return true;
            }
        }
        return false;
    }

    int entered(One looker, One lookedAt) {
        int n = 0;
        for (One p : people) {
            for (One q : people) {
                if ((looker == null || p == looker) && (lookedAt == null || q == lookedAt)
                        && glances(p, q) && lit(q.at)) {
                    n++;
                }
            }
        }
        return n;
    }

    int duty(One p) {
        int full = mite * entered(null, p);
        return p.kind == 5 ? 0 : p.kind == 2 ? (full * 8 + 8) / 9 : full;
    }

    int duties() {
        int sum = 0;
        for (One p : people) {
            sum += duty(p);
        }
        return sum;
    }

    int[] walk(int person, int to) {
        Naive n = copy();
        One p = n.people.get(person);
        int from = p.at;
        int[] cost = new int[36];
        for (int s = 0; s < 36; s++) {
            p.at = s;
            cost[s] = wall[s] ? 0 : n.duty(p);
        }
        int[][] best = new int[36][];
        PriorityQueue<int[]> open = new PriorityQueue<>((x, y) -> {
            for (int i = 0; i < 3; i++) {
                if (x[i] != y[i]) {
                    return Integer.compare(x[i], y[i]);
                }
            }
            return 0;
        });
        open.add(new int[] {0, 0, from, from});
        while (!open.isEmpty()) {
            int[] t = open.poll();
            int s = t[3];
            if (best[s] != null) {
                continue;
            }
            best[s] = t;
            for (int way = 0; way < 4; way++) {
                int next = beside(s, way);
                if (next >= 0 && !wall[next]) {
                    open.add(new int[] {t[0] + cost[next], t[1] + 1, t[1] == 0 ? next : t[2], next});
                }
            }
        }
        return best[to] == null ? new int[] {-1, -1, -1} : best[to];
    }

    static int beside(int square, int way) {
        int r = square / 6 + (way == 2 ? 1 : way == 0 ? -1 : 0);
        int c = square % 6 + (way == 1 ? 1 : way == 3 ? -1 : 0);
        return way < 0 || way > 3 || r < 0 || r > 5 || c < 0 || c > 5 ? -1 : 6 * r + c;
    }

    boolean step(int person, int way) {
        if (person >= people.size()) {
            return false;
        }
        One p = people.get(person);
        int next = beside(p.at, way);
        if (next < 0 || wall[next]) {
            return false;
        }
        p.at = next;
        return true;
    }

    void pay(One p) {
        for (int owed = duty(p); owed > 0 && p.purse > 0; owed--) {
            p.purse--;
            taken++;
        }
    }

    int draw(int below) {
        seed = seed * 1103515245 + 12345;
        return (seed >> 16 & 0xFFFF) % below;
    }

    void hour() {
        rain = draw(4) == 0;
        for (int i = 0; i < people.size(); i++) {
            step(i, draw(5));
        }
        for (One p : people) {
            pay(p);
        }
        hours++;
    }

    private static final String N = " \\d{1,2}";
    private static final String ITEM = "(wall" + N + "|gap" + N + "|balcony" + N + "|person" + N + N
            + N + N + N + N + "|sack" + N + "|mite" + N + "|reach" + N + ")";
    private static final Pattern TEXT = Pattern.compile(ITEM + "(;" + ITEM + ")*");
    private static final Pattern TOKEN = Pattern.compile("[a-z]+|\\d{1,2}");

    private static boolean goesOn(String text) {
        Matcher m = TEXT.matcher(text);
        return m.matches() || m.hitEnd();
    }

    /** Reads a text over this town, which is spoilt by a fault: the fault, or -1. */
    int read(String text) {
        int stands = 0;
        while (stands < text.length() && goesOn(text.substring(0, stands + 1))) {
            stands++;
        }
        boolean whole = stands == text.length() && TEXT.matcher(text).matches();
        Matcher tokens = TOKEN.matcher(text.substring(0, stands));
        String word = "";
        int[] n = new int[6];
        int numbers = 0;
        while (tokens.find()) {
            String token = tokens.group();
            if (token.charAt(0) >= 'a') {
                if (token.equals("person") && people.size() == 7) {
                    return tokens.start();
                }
                word = token;
                numbers = 0;
                continue;
            }
            n[numbers] = Integer.parseInt(token);
            if (!mayBe(word, numbers, n[numbers])) {
                return tokens.start();
            }
            numbers++;
            if (numbers == (word.equals("person") ? 6 : 1)) {
                tell(word, n);
            }
        }
        return whole ? -1 : stands;
    }

    private boolean mayBe(String word, int place, int v) {
        switch (word) {
            case "wall": return v < 36 && people.stream().noneMatch(p -> p.at == v);
            case "gap":
            case "balcony": return v < 36;
            case "sack": return v < people.size();
            case "mite": return v >= 1 && v <= 9;
            case "reach": return v >= 1 && v <= 5;
            default: return v <= new int[] {6, 9, 20, 9, 99, 35}[place] && (place < 5 || !wall[v]);
        }
    }

    private void tell(String word, int[] n) {
        switch (word) {
            case "wall": wall[n[0]] = true; break;
            case "gap": wall[n[0]] = false; break;
            case "balcony": balcony[n[0]] = true; break;
            case "sack": people.get(n[0]).sacked = true; break;
            case "mite": mite = n[0]; break;
            case "reach": reach = n[0]; break;
            default:
                One p = new One();
                p.kind = n[0];
                p.a = n[1];
                p.looks = n[2];
                p.shame = n[3];
                p.purse = n[4];
                p.at = n[5];
                people.add(p);
        }
    }
}
