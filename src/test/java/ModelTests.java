import java.util.ArrayList;
import java.util.Collections;
import java.util.List;
import java.util.NoSuchElementException;
import java.util.Random;

/** Runs of calls by draws, each answer held against the model's. */
public final class ModelTests {
    private static Random draws;
    private static String lastCall = "";

    public static void main(String[] args) {
        int runs = args.length > 0 ? Integer.parseInt(args[0]) : 300;
        int texts = args.length > 1 ? Integer.parseInt(args[1]) : 60000;
        int first = args.length > 2 ? Integer.parseInt(args[2]) : 1;
        faults(texts, first);
        for (int run = first; run < first + runs; run++) {
            draws = new Random(run);
            run(run);
        }
        Check.close("ModelTests");
    }

    private static int draw(int m) {
        return draws.nextInt(m);
    }

    private static boolean chance(int percent) {
        return draw(100) < percent;
    }

    /** Faults of many texts, most of them wrong at few places. */
    private static void faults(int texts, int seed) {
        draws = new Random(1000000L + seed);
        SmellMap x = new SmellMap();
        int whole = 0;
        for (int n = 0; n < texts; n++) {
            if (n % 50 == 0) {
                x = new SmellMap();
            }
            int sort = n % 2;
            String t = sort == 0 ? cityText() : lawText();
            for (int bend = draw(4); bend > 0; bend--) {
                t = bent(t, sort);
            }
            if (chance(10)) {
                t = t.substring(0, draw(t.length() + 1));
            }
            if (t.length() > 160) {
                t = t.substring(0, 160);
            }
            Check.put(x, t);
            int want = sort == 0 ? Model.cityFault(t) : Model.lawFault(t);
            Check.due("fault(" + sort + ") of \"" + t + "\"", x.fault(sort), want);
            if (want == Model.NONE) {
                whole++;
            }
        }
        Check.due("enough texts without a fault", whole > texts / 10 && whole < texts * 9 / 10, true);
    }

    private static String bent(String t, int sort) {
        String signs = sort == 0 ? "l.#;sdkrcfupn0123456789 " : "y:?|&!()=<>+-*/[]pfhkw;0123456789 ";
        int at = draw(t.length() + 1);
        char sign = chance(97) ? signs.charAt(draw(signs.length())) : (char) (1 + draw(255));
        int way = draw(3);
        if (way == 0 || at == t.length()) {
            return t.substring(0, at) + sign + t.substring(at);
        }
        return t.substring(0, at) + (way == 1 ? "" : sign) + t.substring(at + 1);
    }

    // texts by draws

    private static String blanks(String t) {
        if (chance(70)) {
            return t;
        }
        StringBuilder b = new StringBuilder();
        for (int i = 0; i < t.length(); i++) {
            boolean within = i > 0 && Character.isDigit(t.charAt(i)) && Character.isDigit(t.charAt(i - 1));
            if (!within && chance(20)) {
                b.append(' ');
            }
            b.append(t.charAt(i));
        }
        return b.append(chance(30) ? " " : "").toString();
    }

    private static String cityText() {
        int rows = 1 + draw(4), columns = 1 + draw(5);
        boolean small = chance(50);
        char[][] ground = new char[rows][columns];
        List<int[]> streets = new ArrayList<>();
        int walls = draw(60);
        for (int r = 0; r < rows; r++) {
            for (int c = 0; c < columns; c++) {
                ground[r][c] = chance(walls) || small && streets.size() >= 12 ? '#' : '.';
                if (ground[r][c] == '.') {
                    streets.add(new int[] {r, c});
                }
            }
        }
        List<String> clauses = new ArrayList<>();
        int sources = 1 + draw(6);
        for (int n = 0; n < sources; n++) {
            int[] place = streets.isEmpty() ? new int[2] : streets.get(draw(streets.size()));
            if (chance(2)) {
                place = new int[] {draw(4), draw(5)};
            }
            clauses.add(sourceText(place[0], place[1]));
        }
        if (chance(60)) {
            clauses.add(chance(85) ? "dn" + (chance(70) ? draw(10) : draw(51)) : "d");
        }
        Collections.shuffle(clauses, draws);
        int at = 0;
        for (int r = 0; r < rows; r++) {
            at += draw(clauses.size() + 1 - at);
            clauses.add(at++, "l" + new String(ground[r]));
        }
        String t = String.join(";", clauses);
        String spaced = blanks(t);
        return spaced.length() <= 160 ? spaced : t;
    }

    private static String sourceText(int row, int column) {
        List<String> items = new ArrayList<>();
        if (chance(80)) {
            items.add("k" + number(chance(60) ? draw(2) : draw(5)));
        }
        if (row != 0 || chance(20)) {
            items.add("r" + number(row));
        }
        if (column != 0 || chance(20)) {
            items.add("c" + number(column));
        }
        if (chance(35)) {
            items.add("f" + number(draw(24)));
        }
        if (chance(35)) {
            items.add("u" + number(draw(24)));
        }
        if (chance(60)) {
            items.add("p" + number(1 + draw(9)));
        }
        Collections.shuffle(items, draws);
        return "s" + String.join("", items);
    }

    private static String number(int v) {
        return v < 10 && chance(10) ? "0" + v : "" + v;
    }

    private static String lawText() {
        StringBuilder b = new StringBuilder();
        int clauses = 1 + draw(4);
        for (int n = 0; n < clauses; n++) {
            String more = (n > 0 ? ";" : "") + "y:" + (chance(60) ? condition(draw(7)) + "?" : "") + sum(draw(7));
            if (b.length() + more.length() > 130) {
                break;
            }
            b.append(more);
        }
        if (b.length() == 0) {
            b.append("y:3*p-f*").append(draw(4));
        }
        String spaced = blanks(b.toString());
        return spaced.length() <= 160 ? spaced : b.toString();
    }

    private static String condition(int deep) {
        StringBuilder b = new StringBuilder(unit(deep));
        for (int n = chance(30) ? 1 + draw(2) : 0; n > 0; n--) {
            b.append("&|".charAt(draw(2))).append(unit(deep));
        }
        return b.toString();
    }

    private static String unit(int deep) {
        if (deep > 0 && chance(35)) {
            return chance(50) ? "!" + unit(deep - 1) : "(" + condition(deep - 1) + ")";
        }
        return sum(deep / 2) + "=<>".charAt(draw(3)) + sum(deep / 2);
    }

    private static String sum(int deep) {
        StringBuilder b = new StringBuilder(atom(deep));
        for (int n = draw(4); n > 0; n--) {
            b.append("+-*/".charAt(draw(4))).append(atom(deep));
        }
        return b.toString();
    }

    private static String atom(int deep) {
        if (deep > 0 && chance(25)) {
            return "[" + sum(deep - 1) + "]";
        }
        if (chance(55)) {
            return "" + "pfhkw".charAt(chance(60) ? draw(2) : draw(5));
        }
        return "" + (chance(70) ? draw(10) : chance(50) ? draw(100) : draw(10000));
    }

    // runs

    private static void due(int run, int n, long got, long want) {
        Check.due("run " + run + ", call " + n + ": " + lastCall, got, want);
    }

    private static void due(int run, int n, boolean got, boolean want) {
        due(run, n, got ? 1 : 0, want ? 1 : 0);
    }

    private static int feed(SmellMap x, Model m, String t, int run, int n) {
        int calls = 1;
        lastCall = "end(0)";
        due(run, n, x.end(0), m.end(0));
        for (int from = 0; from < t.length(); from += 20) {
            int[] v = Check.numbers(t, from);
            lastCall = "feed of " + t;
            due(run, n + calls, x.feed(v[0], v[1], v[2], v[3], v[4]), m.feed(v));
            calls++;
        }
        return calls;
    }

    private static int cell(Model m) {
        List<Integer> streets = m.streets();
        if (chance(88) && !streets.isEmpty()) {
            return streets.get(draw(streets.size()));
        }
        return chance(80) ? 10 * draw(4) + draw(5) : odd();
    }

    /** Where one is who goes as the trail tells; so that trails are told that can have been gone. */
    private static int walker = 0;

    private static int walkedBreath(Model m, int side) {
        if (m.count(10) == 0 || m.breath(walker) < 0) {
            walker = cell(m);
        }
        if (side >= 0 && side < 5 && m.breath(walker) >= 0) {
            walker = m.step(walker, side);
        }
        return m.breath(walker);
    }

    private static int odd() {
        int[] all = {-1, -10, 5, 7, 40, 44, 50, 99, 100, 1000000, Integer.MAX_VALUE, Integer.MIN_VALUE, -2, 31, 32};
        return all[draw(all.length)];
    }

    private static int below(int m) {
        return chance(98) ? draw(m) : odd();
    }

    private static void run(int run) {
        SmellMap x = new SmellMap();
        Model m = new Model();
        int n = 0;
        boolean early = chance(90);
        while (n < 500 && Check.failed == 0) {
            int pick = draw(1000);
            if (n == 0 && early || pick < 8) {
                n += feed(x, m, cityText(), run, n);
                lastCall = "text(0)";
                due(run, n++, x.text(0), m.text(0));
            } else if (pick < 20) {
                n += feed(x, m, lawText(), run, n);
                lastCall = "text(1)";
                due(run, n++, x.text(1), m.text(1));
                lastCall = "law of it";
                due(run, n++, x.law(x.count(4) - 1), m.law(m.count(4) - 1));
            } else {
                one(run, n, x, m);
                n++;
            }
        }
    }

    private static void one(int run, int n, SmellMap x, Model m) {
        int a, b, c;
        switch (draw(44)) {
            case 0: case 1: case 2: case 3: case 4:
                a = below(4);
                b = a == 2 ? (chance(80) ? draw(48) : draw(1010) - 5) : a == 3 ? (chance(85) ? draw(8) : draw(53) - 1)
                    : a == 1 ? draw(2) : draw(6) - (chance(10) ? 1 : 0);
                lastCall = "set(" + a + ", " + b + ")";
                due(run, n, x.set(a, b), m.set(a, b));
                break;
            case 5: case 6: case 7:
                a = below(6);
                boolean is = chance(75);
                lastCall = "open(" + a + ", " + is + ")";
                due(run, n, x.open(a, is), m.open(a, is));
                break;
            case 8:
                a = chance(80) ? 1 + draw(8) : draw(27) - 1;
                long seed = chance(50) ? draws.nextLong() : draw(5) - 2;
                lastCall = "hours(" + a + ", " + seed + ")";
                due(run, n, x.hours(a, seed), m.hours(a, seed));
                break;
            case 9: case 10:
                lastCall = "undo()";
                due(run, n, x.undo(), m.undo());
                break;
            case 11: case 12: case 13:
                a = cell(m);
                b = cell(m);
                lastCall = "far(" + a + ", " + b + ")";
                due(run, n, x.far(a, b), m.far(a, b));
                break;
            case 14: case 15: case 16:
                a = cell(m);
                b = below(5);
                lastCall = "smell(" + a + ", " + b + ")";
                due(run, n, x.smell(a, b), m.smell(a, b));
                break;
            case 17:
                a = cell(m);
                lastCall = "breath(" + a + ")";
                due(run, n, x.breath(a), m.breath(a));
                break;
            case 18:
                a = cell(m);
                lastCall = "strongest(" + a + ")";
                due(run, n, x.strongest(a), m.strongest(a));
                break;
            case 19: case 20:
                a = below(5);
                b = walkedBreath(m, a);
                b = chance(92) && b >= 0 ? b : chance(80) ? draw(32) : odd();
                lastCall = "trail(" + a + ", " + b + ")";
                due(run, n, x.trail(a, b), m.trail(a, b));
                break;
            case 21: case 22:
                if (chance(15)) {
                    lastCall = "wipe()";
                    due(run, n, x.wipe(), m.wipe());
                }
                break;
            case 23: case 24:
                a = below(2);
                lastCall = "where(" + a + ")";
                due(run, n, x.where(a), m.where(a));
                break;
            case 25:
                a = cell(m);
                lastCall = "door(" + a + ")";
                due(run, n, x.door(a), m.door(a));
                break;
            case 26:
                a = below(2);
                lastCall = "most(" + a + ")";
                due(run, n, x.most(a), m.most(a));
                break;
            case 27:
                lastCall = "silent()";
                due(run, n, x.silent(), m.silent());
                break;
            case 28:
                a = below(5);
                b = below(5);
                lastCall = "unlike(" + a + ", " + b + ")";
                due(run, n, x.unlike(a, b), m.unlike(a, b));
                break;
            case 29: case 30:
                a = cell(m);
                b = below(5);
                lastCall = "forged(" + a + ", " + b + ")";
                due(run, n, x.forged(a, b), m.forged(a, b));
                break;
            case 31: case 32:
                a = cell(m);
                b = below(5);
                c = below(2);
                lastCall = "follow(" + a + ", " + b + ", " + c + ")";
                due(run, n, x.follow(a, b, c), m.follow(a, b, c));
                break;
            case 33:
                a = below(5);
                lastCall = "led(" + a + ")";
                due(run, n, x.led(a), m.led(a));
                break;
            default:
                other(run, n, x, m);
                break;
        }
    }

    private static void other(int run, int n, SmellMap x, Model m) {
        int a = cell(m), b = below(2), c;
        switch (draw(12)) {
            case 0: case 1:
                lastCall = "sure(" + a + ", " + b + ")";
                due(run, n, x.sure(a, b), m.sure(a, b));
                break;
            case 2:
                c = chance(95) ? draw(32) : odd();
                int steps = chance(70) ? draw(4) : below(11);
                boolean is = chance(60);
                lastCall = "note(" + c + ", " + a + ", " + steps + ", " + is + ")";
                due(run, n, x.note(c, a, steps, is), m.note(c, a, steps, is));
                break;
            case 3:
                c = below(31);
                lastCall = "thief(" + c + ")";
                due(run, n, x.thief(c), m.thief(c));
                break;
            case 4:
                lastCall = "found(" + b + ")";
                due(run, n, x.found(b), m.found(b));
                break;
            case 5:
                lastCall = "image()";
                due(run, n, x.image(), m.image());
                break;
            case 6:
                if (chance(40)) {
                    lastCall = "back()";
                    due(run, n, x.back(), m.back());
                }
                break;
            case 7: case 8:
                c = chance(90) ? draw(15) - 1 : odd();
                lastCall = "count(" + c + ")";
                due(run, n, x.count(c), m.count(c));
                break;
            case 9:
                c = chance(80) ? draw(5) - 1 : odd();
                lastCall = "law(" + c + ")";
                due(run, n, x.law(c), m.law(c));
                break;
            case 10:
                lastCall = "street(" + a + ")";
                due(run, n, x.street(a), m.street(a));
                break;
            default:
                source(run, n, x, m);
                break;
        }
    }

    private static void source(int run, int n, SmellMap x, Model m) {
        int a = below(6), b = chance(95) ? draw(8) : odd();
        long got = Long.MIN_VALUE, want = Long.MIN_VALUE;
        try {
            got = x.source(a, b);
        } catch (NoSuchElementException e) {
            got = Long.MAX_VALUE;
        }
        try {
            want = m.source(a, b);
        } catch (NoSuchElementException e) {
            want = Long.MAX_VALUE;
        }
        lastCall = "source(" + a + ", " + b + ")";
        due(run, n, got, want);
    }
}
