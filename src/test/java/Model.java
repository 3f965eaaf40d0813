import java.util.ArrayDeque;
import java.util.ArrayList;
import java.util.Deque;
import java.util.HashMap;
import java.util.HashSet;
import java.util.List;
import java.util.Map;
import java.util.NoSuchElementException;
import java.util.Set;
import java.util.TreeMap;
import java.util.TreeSet;

/**
 * The document once more, slowly and by other ways than the class: texts by machines of states,
 * laws by cutting their texts apart, ways by all pairs at once, rows of steps as texts.
 */
final class Model {
    static final int NONE = -1;
    static final int HIDDEN = -1000000;
    private static final int[] DOWN = {0, -1, 0, 1, 0};
    private static final int[] RIGHT = {0, 0, 1, 0, -1};

    private static final class Source {
        int kind = 0, row = 0, column = 0, from = 0, until = 0, power = 5;
    }

    private static final class State {
        int wind, rain, hour, dull;
        Set<Integer> open = new TreeSet<>();

        State copy() {
            State s = new State();
            s.wind = wind;
            s.rain = rain;
            s.hour = hour;
            s.dull = dull;
            s.open = new TreeSet<>(open);
            return s;
        }
    }

    private static final class Noted {
        int minute, place, steps;
        boolean is;
    }

    String tape = "";
    private boolean there = false;
    private List<String> rows = new ArrayList<>();
    private List<Source> sources = new ArrayList<>();
    private final List<String> laws = new ArrayList<>();
    private int law = NONE;
    private State now = new State();
    private Deque<State> acts = new ArrayDeque<>();
    private State image = null;
    private List<int[]> trail = new ArrayList<>();
    private List<Noted> notes = new ArrayList<>();

    // texts

    int feed(int... numbers) {
        StringBuilder more = new StringBuilder();
        for (int n : numbers) {
            for (int i = 3; i >= 0; i--) {
                char c = (char) (n >> 8 * i & 0xFF);
                if (c != 0) {
                    more.append(c);
                }
            }
        }
        if (tape.length() + more.length() > 160) {
            return NONE;
        }
        tape += more;
        return tape.length();
    }

    boolean end(int n) {
        if (n < 0 || n > tape.length()) {
            return false;
        }
        tape = tape.substring(0, n);
        return true;
    }

    int fault(int sort) {
        return sort == 0 ? cityFault(tape) : sort == 1 ? lawFault(tape) : -2;
    }

    private static boolean digit(char c) {
        return c >= '0' && c <= '9';
    }

    private static String bounds(char clause, char letter) {
        String all = clause == 's' ? "k 0 4;r 0 3;c 0 4;f 0 23;u 0 23;p 1 9" : "n 0 50";
        for (String one : all.split(";")) {
            if (one.charAt(0) == letter) {
                return one.substring(2);
            }
        }
        return null;
    }

    /** A machine of states: c a clause begins, g ground of a row, i items, n a number must come. */
    static int cityFault(String t) {
        char state = 'c', clause = ' ', letter = ' ';
        int ls = 0, ss = 0, ds = 0;
        String seen = "", ground = "";
        int i = 0;
        while (i < t.length()) {
            char c = t.charAt(i);
            if (c == ' ') {
                i++;
                continue;
            }
            switch (state) {
                case 'c':
                    if (c == 'l' && ++ls <= 4) {
                        ground = "";
                        state = 'g';
                    } else if (c == 's' && ++ss <= 6 || c == 'd' && ++ds <= 1) {
                        seen = "";
                        state = 'i';
                    } else {
                        return i;
                    }
                    clause = c;
                    break;
                case 'g':
                    if ((c == '.' || c == '#') && ground.length() < 5) {
                        ground += c;
                    } else if (c == ';' && !ground.isEmpty()) {
                        state = 'c';
                    } else {
                        return i;
                    }
                    break;
                case 'i':
                    if (c == ';') {
                        state = 'c';
                    } else if (bounds(clause, c) != null && seen.indexOf(c) < 0) {
                        seen += c;
                        letter = c;
                        state = 'n';
                    } else {
                        return i;
                    }
                    break;
                default:
                    if (!digit(c)) {
                        return i;
                    }
                    int e = i;
                    while (e < t.length() && digit(t.charAt(e))) {
                        e++;
                    }
                    if (e - i > 2) {
                        return i + 2;
                    }
                    int v = Integer.parseInt(t.substring(i, e));
                    String[] b = bounds(clause, letter).split(" ");
                    if (v < Integer.parseInt(b[0]) || v > Integer.parseInt(b[1])) {
                        return e - 1;
                    }
                    i = e - 1;
                    state = 'i';
                    break;
            }
            i++;
        }
        boolean whole = state == 'i' || state == 'g' && !ground.isEmpty();
        return whole && fits(t) ? NONE : t.length();
    }

    private static boolean fits(String t) {
        Model m = new Model();
        m.build(t);
        int width = m.rows.isEmpty() ? 0 : m.rows.get(0).length();
        boolean street = false;
        for (String row : m.rows) {
            if (row.length() != width) {
                return false;
            }
            street |= row.indexOf('.') >= 0;
        }
        for (Source s : m.sources) {
            if (s.row >= m.rows.size() || s.column >= width || m.rows.get(s.row).charAt(s.column) != '.') {
                return false;
            }
        }
        return street && !m.sources.isEmpty();
    }

    private void build(String t) {
        rows = new ArrayList<>();
        sources = new ArrayList<>();
        now = new State();
        now.dull = 1;
        for (String clause : t.replace(" ", "").split(";")) {
            String rest = clause.substring(1);
            if (clause.charAt(0) == 'l') {
                rows.add(rest);
                continue;
            }
            Source s = new Source();
            for (String item : rest.split("(?=[a-z])")) {
                if (item.isEmpty()) {
                    continue;
                }
                int v = Integer.parseInt(item.substring(1));
                switch (item.charAt(0)) {
                    case 'k': s.kind = v; break;
                    case 'r': s.row = v; break;
                    case 'c': s.column = v; break;
                    case 'f': s.from = v; break;
                    case 'u': s.until = v; break;
                    case 'p': s.power = v; break;
                    default: now.dull = v; break;
                }
            }
            if (clause.charAt(0) == 's') {
                now.open.add(sources.size());
                sources.add(s);
            }
        }
    }

    /**
     * A machine with a pile: T the clause, ( and [ as they are, ! a negation; before each stands what
     * part of a unit it is in: l left of the comparison, r right of it, u a whole unit is closed.
     */
    static int lawFault(String t) {
        StringBuilder pile = new StringBuilder();
        StringBuilder parts = new StringBuilder();
        // y a clause begins, : its colon, o an operand must come, a behind an operand;
        // unitBegins: the operand may be the first of a unit, so that ! and ( may stand there
        char state = 'y';
        boolean asked = false, judging = false, unitBegins = false;
        int i = 0;
        while (i < t.length()) {
            char c = t.charAt(i);
            if (c == ' ') {
                i++;
                continue;
            }
            if (state == 'y') {
                if (c != 'y') {
                    return i;
                }
                state = ':';
            } else if (state == ':') {
                if (c != ':') {
                    return i;
                }
                state = 'o';
                asked = false;
                judging = false;
                unitBegins = true;
                pile.setLength(0);
                parts.setLength(0);
                pile.append('T');
                parts.append('l');
            } else if (state == 'o') {
                if (digit(c)) {
                    int e = i;
                    while (e < t.length() && digit(t.charAt(e))) {
                        e++;
                    }
                    if (e - i > 4) {
                        return i + 4;
                    }
                    i = e - 1;
                    state = 'a';
                    unitBegins = false;
                } else if ("pfhkw".indexOf(c) >= 0) {
                    state = 'a';
                    unitBegins = false;
                } else if (c == '[' || (c == '(' || c == '!') && unitBegins) {
                    if (pile.length() - 1 >= 6) {
                        return i;
                    }
                    pile.append(c);
                    parts.append('l');
                    unitBegins = c != '[';
                    judging |= unitBegins;
                } else {
                    return i;
                }
            } else {
                int top = pile.length() - 1;
                char in = pile.charAt(top), part = parts.charAt(top);
                if ("+-*/".indexOf(c) >= 0 && part != 'u') {
                    state = 'o';
                    unitBegins = false;
                } else if (c == ']' && in == '[') {
                    pile.setLength(top);
                    parts.setLength(top);
                } else if ("=<>".indexOf(c) >= 0 && in != '[' && part == 'l' && !asked) {
                    parts.setCharAt(top, 'r');
                    judging = true;
                    state = 'o';
                    unitBegins = false;
                } else if ("&|)?".indexOf(c) >= 0 && in != '[' && (part == 'r' || part == 'u') && !asked) {
                    while (pile.charAt(pile.length() - 1) == '!') {
                        pile.setLength(pile.length() - 1);
                        parts.setLength(parts.length() - 1);
                    }
                    top = pile.length() - 1;
                    if (c == ')') {
                        if (pile.charAt(top) != '(') {
                            return i;
                        }
                        pile.setLength(top);
                        parts.setLength(top);
                        parts.setCharAt(top - 1, 'u');
                    } else if (c == '?') {
                        if (top != 0) {
                            return i;
                        }
                        asked = true;
                        judging = false;
                        parts.setCharAt(0, 'l');
                        state = 'o';
                        unitBegins = false;
                    } else {
                        parts.setCharAt(top, 'l');
                        state = 'o';
                        unitBegins = true;
                    }
                } else if (c == ';' && pile.length() == 1 && !judging) {
                    state = 'y';
                } else {
                    return i;
                }
            }
            i++;
        }
        return state == 'a' && pile.length() == 1 && !judging ? NONE : t.length();
    }

    int text(int sort) {
        if (sort == 0 && cityFault(tape) == NONE) {
            build(tape);
            there = true;
            tape = "";
            law = NONE;
            acts.clear();
            image = null;
            trail.clear();
            notes.clear();
            return streets().size();
        }
        if (sort == 1 && laws.size() < 4 && lawFault(tape) == NONE) {
            laws.add(tape.replace(" ", ""));
            tape = "";
            return laws.size() - 1;
        }
        return NONE;
    }

    // laws, by cutting texts

    private static long worth(String law, Map<Character, Integer> letters) {
        for (String clause : law.split(";")) {
            String body = clause.substring(2);
            int ask = body.indexOf('?');
            if (ask < 0 || holds(body.substring(0, ask), letters)) {
                return sum(body.substring(ask + 1), letters);
            }
        }
        return 0;
    }

    /** The last place outside of all brackets where one of some signs stands, or -1. */
    private static int last(String t, String signs) {
        int deep = 0;
        for (int i = t.length() - 1; i >= 0; i--) {
            char c = t.charAt(i);
            if (c == ')' || c == ']') {
                deep++;
            } else if (c == '(' || c == '[') {
                deep--;
            } else if (deep == 0 && signs.indexOf(c) >= 0) {
                return i;
            }
        }
        return -1;
    }

    private static boolean holds(String t, Map<Character, Integer> letters) {
        int or = last(t, "|");
        if (or >= 0) {
            return holds(t.substring(0, or), letters) || holds(t.substring(or + 1), letters);
        }
        int and = last(t, "&");
        if (and >= 0) {
            return holds(t.substring(0, and), letters) && holds(t.substring(and + 1), letters);
        }
        if (t.charAt(0) == '!') {
            return !holds(t.substring(1), letters);
        }
        if (t.charAt(0) == '(') {
            return holds(t.substring(1, t.length() - 1), letters);
        }
        int at = last(t, "=<>");
        long left = sum(t.substring(0, at), letters), right = sum(t.substring(at + 1), letters);
        char c = t.charAt(at);
        return c == '=' ? left == right : c == '<' ? left < right : left > right;
    }

    private static long sum(String t, Map<Character, Integer> letters) {
        int at = last(t, "+-");
        if (at < 0) {
            at = last(t, "*/");
        }
        if (at >= 0) {
            long left = sum(t.substring(0, at), letters), right = sum(t.substring(at + 1), letters);
            char c = t.charAt(at);
            long v = c == '+' ? left + right : c == '-' ? left - right : c == '*' ? left * right
                : right == 0 ? 0 : left / right;
            return v > 1000000 ? 1000000 : v < -1000000 ? -1000000 : v;
        }
        if (t.charAt(0) == '[') {
            return sum(t.substring(1, t.length() - 1), letters);
        }
        return digit(t.charAt(0)) ? Long.parseLong(t) : letters.get(t.charAt(0));
    }

    // the city

    private int columns() {
        return rows.isEmpty() ? 0 : rows.get(0).length();
    }

    private boolean isStreet(int row, int column) {
        return row >= 0 && row < rows.size() && column >= 0 && column < columns()
            && rows.get(row).charAt(column) == '.';
    }

    List<Integer> streets() {
        List<Integer> all = new ArrayList<>();
        for (int r = 0; r < rows.size(); r++) {
            for (int c = 0; c < columns(); c++) {
                if (isStreet(r, c)) {
                    all.add(10 * r + c);
                }
            }
        }
        return all;
    }

    private boolean streetCell(int cell) {
        return streets().contains(cell);
    }

    private int bit(int cell) {
        return 1 << cell / 10 * columns() + cell % 10;
    }

    int step(int cell, int side) {
        int r = cell / 10 + DOWN[side], c = cell % 10 + RIGHT[side];
        return isStreet(r, c) ? 10 * r + c : cell;
    }

    private Map<Integer, Map<Integer, Integer>> farCache = null;
    private String farKey = "";

    private Integer farAll(int wind, int from, int to) {
        String key = wind + rows.toString();
        if (!key.equals(farKey)) {
            farKey = key;
            farCache = pairs(wind);
        }
        return farCache.get(from).get(to);
    }

    private Map<Integer, Map<Integer, Integer>> pairs(int wind) {
        Map<Integer, Map<Integer, Integer>> far = new HashMap<>();
        for (int a : streets()) {
            Map<Integer, Integer> row = new HashMap<>();
            for (int side = 1; side <= 4; side++) {
                int cost = wind == 0 ? 2 : side == wind ? 1 : (side + 2 - 1) % 4 + 1 == wind ? 3 : 2;
                if (step(a, side) != a) {
                    row.put(step(a, side), cost);
                }
            }
            row.put(a, 0);
            far.put(a, row);
        }
        for (int m : streets()) {
            for (int a : streets()) {
                for (int b : streets()) {
                    Integer x = far.get(a).get(m), y = far.get(m).get(b), z = far.get(a).get(b);
                    if (x != null && y != null && (z == null || x + y < z)) {
                        far.get(a).put(b, x + y);
                    }
                }
            }
        }
        return far;
    }

    private boolean isItsHour(Source s) {
        if (s.from == s.until) {
            return true;
        }
        for (int h = s.from; h != s.until; h = (h + 1) % 24) {
            if (h == now.hour % 24) {
                return true;
            }
        }
        return false;
    }

    private int whiff(Source s, int cell, int wind) {
        Integer far = farAll(wind, 10 * s.row + s.column, cell);
        if (far == null) {
            return 0;
        }
        long v = 3 * s.power - far;
        if (law != NONE) {
            v = worth(laws.get(law), Map.of('p', s.power, 'f', far, 'h', now.hour % 24, 'k', s.kind, 'w', wind));
        }
        int held = (int) (v < 0 ? 0 : v > 99 ? 99 : v);
        return now.rain == 1 ? held / 2 : held;
    }

    private List<Source> smelling(Set<Integer> open) {
        List<Source> list = new ArrayList<>();
        for (int i : open) {
            if (isItsHour(sources.get(i))) {
                list.add(sources.get(i));
            }
        }
        return list;
    }

    private int smellOf(List<Source> some, int cell, int kind, int wind) {
        int most = 0;
        for (Source s : some) {
            if (s.kind == kind) {
                most = Math.max(most, whiff(s, cell, wind));
            }
        }
        return most;
    }

    private int breathOf(List<Source> some, int cell, int wind) {
        int breath = 0;
        for (int kind = 0; kind < 5; kind++) {
            int v = smellOf(some, cell, kind, wind);
            if (v > 0 && v >= now.dull) {
                breath += 1 << kind;
            }
        }
        return breath;
    }

    private Map<Integer, Integer> breaths(List<Source> some, int wind) {
        Map<Integer, Integer> all = new TreeMap<>();
        for (int cell : streets()) {
            all.put(cell, breathOf(some, cell, wind));
        }
        return all;
    }

    private Set<Integer> subset(int bits) {
        Set<Integer> set = new TreeSet<>();
        for (int i = 0; i < sources.size(); i++) {
            if ((bits >> i & 1) == 1) {
                set.add(i);
            }
        }
        return set;
    }

    /** All sets of sources, the fewest first, then the least. */
    private List<Integer> sets() {
        List<Integer> all = new ArrayList<>();
        for (int bits = 0; bits < 1 << sources.size(); bits++) {
            all.add(bits);
        }
        all.sort((a, b) -> Integer.bitCount(a) != Integer.bitCount(b)
            ? Integer.bitCount(a) - Integer.bitCount(b) : a - b);
        return all;
    }

    // the face

    int source(int source, int what) {
        if (source < 0 || source >= sources.size() || what < 0 || what > 6) {
            throw new NoSuchElementException();
        }
        Source s = sources.get(source);
        int open = now.open.contains(source) ? 1 : 0;
        int[] all = {s.kind, 10 * s.row + s.column, s.from, s.until, s.power, open, isItsHour(s) ? open : 0};
        return all[what];
    }

    int street(int cell) {
        if (cell < 0 || cell / 10 >= rows.size() || cell % 10 >= columns()) {
            return NONE;
        }
        return streetCell(cell) ? 1 : 0;
    }

    boolean law(int which) {
        if (!there || which < -1 || which >= laws.size()) {
            return false;
        }
        law = which;
        return true;
    }

    private void act() {
        acts.addLast(now.copy());
        if (acts.size() > 40) {
            acts.removeFirst();
        }
    }

    boolean set(int what, int v) {
        int[] most = {4, 1, 999, 50};
        if (!there || what < 0 || what > 3 || v < 0 || v > most[what] || v == count(new int[] {7, 8, 6, 9}[what])) {
            return false;
        }
        act();
        switch (what) {
            case 0: now.wind = v; break;
            case 1: now.rain = v; break;
            case 2: now.hour = v; break;
            default: now.dull = v; break;
        }
        return true;
    }

    boolean open(int source, boolean is) {
        if (source < 0 || source >= sources.size() || now.open.contains(source) == is) {
            return false;
        }
        act();
        if (is) {
            now.open.add(source);
        } else {
            now.open.remove(source);
        }
        return true;
    }

    int hours(int n, long seed) {
        if (!there || n < 1 || n > 24 || now.hour + n > 999) {
            return NONE;
        }
        long[] x = {seed};
        for (int i = 0; i < n; i++) {
            act();
            now.hour++;
            now.wind = draw(x, 5);
            now.rain = draw(x, 4) == 0 ? 1 : 0;
        }
        return now.hour;
    }

    private static int draw(long[] x, int m) {
        x[0] = x[0] * 6364136223846793005L + 1442695040888963407L;
        return (int) (Long.divideUnsigned(x[0], 1L << 33) % m);
    }

    int undo() {
        if (acts.isEmpty()) {
            return NONE;
        }
        now = acts.removeLast();
        return acts.size();
    }

    int far(int from, int to) {
        if (!streetCell(from) || !streetCell(to)) {
            return NONE;
        }
        Integer far = farAll(now.wind, from, to);
        return far == null ? NONE : far;
    }

    int smell(int cell, int kind) {
        return !streetCell(cell) || kind < 0 || kind > 4 ? NONE : smellOf(smelling(now.open), cell, kind, now.wind);
    }

    int breath(int cell) {
        return streetCell(cell) ? breathOf(smelling(now.open), cell, now.wind) : NONE;
    }

    int strongest(int cell) {
        int breath = breath(cell), best = NONE;
        for (int kind = 4; kind >= 0 && breath > 0; kind--) {
            if ((breath >> kind & 1) == 1 && (best == NONE || smell(cell, kind) >= smell(cell, best))) {
                best = kind;
            }
        }
        return best;
    }

    int trail(int side, int breath) {
        if (!there || side < 0 || side > 4 || breath < 0 || breath > 31 || trail.size() == 12) {
            return NONE;
        }
        trail.add(new int[] {side, breath});
        return trail.size();
    }

    boolean wipe() {
        boolean had = !trail.isEmpty();
        trail.clear();
        return had;
    }

    private int walked(boolean ends) {
        Map<Integer, Integer> breaths = breaths(smelling(now.open), now.wind);
        int bits = 0;
        next:
        for (int start : streets()) {
            int cell = start;
            for (int[] one : trail) {
                cell = step(cell, one[0]);
                if (breaths.get(cell) != one[1]) {
                    continue next;
                }
            }
            bits |= bit(ends ? cell : start);
        }
        return bits;
    }

    int where(int what) {
        return !there || what < 0 || what > 1 ? NONE : walked(what == 1);
    }

    int door(int cell) {
        if (!streetCell(cell)) {
            return NONE;
        }
        for (int bits : sets()) {
            Map<Integer, Integer> breaths = breaths(smelling(subset(bits)), now.wind);
            int mine = breaths.remove(cell);
            if (mine != 0 && !breaths.containsValue(mine)) {
                return bits;
            }
        }
        return NONE;
    }

    int most(int what) {
        if (!there || what < 0 || what > 1) {
            return NONE;
        }
        int best = 0, most = 0;
        for (int bits : sets()) {
            int many = new HashSet<>(breaths(smelling(subset(bits)), now.wind).values()).size();
            if (many > most) {
                best = bits;
                most = many;
            }
        }
        return what == 0 ? best : most;
    }

    private int unequal(Map<Integer, Integer> a, Map<Integer, Integer> b) {
        int bits = 0;
        for (int cell : streets()) {
            if (!a.get(cell).equals(b.get(cell))) {
                bits |= bit(cell);
            }
        }
        return bits;
    }

    int silent() {
        if (!there) {
            return NONE;
        }
        Map<Integer, Integer> none = breaths(new ArrayList<>(), 0);
        int all = 0;
        for (int cell : streets()) {
            all |= bit(cell);
        }
        return all & ~unequal(none, breaths(smelling(now.open), now.wind));
    }

    int unlike(int wind, int other) {
        if (!there || wind < 0 || wind > 4 || other < 0 || other > 4) {
            return NONE;
        }
        return unequal(breaths(smelling(now.open), wind), breaths(smelling(now.open), other));
    }

    int forged(int cell, int kind) {
        if (!streetCell(cell) || kind < 0 || kind > 4) {
            return NONE;
        }
        List<Source> more = smelling(now.open);
        Source s = new Source();
        s.kind = kind;
        s.row = cell / 10;
        s.column = cell % 10;
        more.add(s);
        return unequal(breaths(smelling(now.open), now.wind), breaths(more, now.wind));
    }

    private List<Integer> nose(int cell, int kind) {
        List<Source> some = smelling(now.open);
        List<Integer> way = new ArrayList<>(List.of(cell));
        while (true) {
            int here = way.get(way.size() - 1);
            int most = 0;
            for (int side = 1; side <= 4; side++) {
                most = Math.max(most, smellOf(some, step(here, side), kind, now.wind));
            }
            if (most <= smellOf(some, here, kind, now.wind)) {
                return way;
            }
            way.add(firstBest(here, some, kind, most));
        }
    }

    private int firstBest(int here, List<Source> some, int kind, int most) {
        for (int side = 1; side <= 4; side++) {
            if (smellOf(some, step(here, side), kind, now.wind) == most) {
                return step(here, side);
            }
        }
        return here;
    }

    int follow(int cell, int kind, int what) {
        if (!streetCell(cell) || kind < 0 || kind > 4 || what < 0 || what > 1) {
            return NONE;
        }
        List<Integer> way = nose(cell, kind);
        return what == 0 ? way.get(way.size() - 1) : way.size() - 1;
    }

    int led(int kind) {
        if (!there || kind < 0 || kind > 4) {
            return NONE;
        }
        int bits = 0;
        for (int cell : streets()) {
            int end = follow(cell, kind, 0);
            for (Source s : smelling(now.open)) {
                if (s.kind == kind && 10 * s.row + s.column == end) {
                    bits |= bit(cell);
                }
            }
        }
        return bits;
    }

    int sure(int cell, int what) {
        if (!streetCell(cell) || what < 0 || what > 1) {
            return NONE;
        }
        if (streets().size() > 12) {
            return HIDDEN;
        }
        Set<Integer> start = new TreeSet<>();
        for (int one : streets()) {
            if ((walked(true) & bit(one)) != 0) {
                start.add(one);
            }
        }
        Map<Set<Integer>, String> level = new HashMap<>();
        if (!start.isEmpty()) {
            level.put(start, "");
        }
        Set<Set<Integer>> seen = new HashSet<>(level.keySet());
        while (!level.isEmpty()) {
            String row = level.get(Set.of(cell));
            if (row != null) {
                return what == 0 ? row.length() : row.isEmpty() ? 0 : row.charAt(0) - '0';
            }
            Map<Set<Integer>, String> next = new HashMap<>();
            for (Map.Entry<Set<Integer>, String> one : level.entrySet()) {
                for (int side = 1; side <= 4; side++) {
                    Set<Integer> moved = new TreeSet<>();
                    for (int from : one.getKey()) {
                        moved.add(step(from, side));
                    }
                    if (!seen.contains(moved)) {
                        next.merge(moved, one.getValue() + side, (a, b) -> a.compareTo(b) < 0 ? a : b);
                    }
                }
            }
            seen.addAll(next.keySet());
            level = next;
        }
        return NONE;
    }

    int note(int minute, int cell, int steps, boolean is) {
        if (!streetCell(cell) || minute < 0 || minute > 30 || steps < 0 || steps > 9 || notes.size() == 12) {
            return NONE;
        }
        Noted n = new Noted();
        n.minute = minute;
        n.place = cell;
        n.steps = steps;
        n.is = is;
        notes.add(n);
        return notes.size();
    }

    private boolean fitsNotes(int minute, int cell) {
        for (Noted n : notes) {
            Integer far = farAll(0, n.place, cell);
            boolean within = far != null && far / 2 <= n.steps;
            if (n.minute == minute && within != n.is) {
                return false;
            }
        }
        return true;
    }

    /** Whether a way by all notes leads from a minute on to the last one, or back to minute 0. */
    private boolean leads(int minute, int cell, int by, Map<Integer, Boolean> known) {
        if (!fitsNotes(minute, cell)) {
            return false;
        }
        if (minute + by < 0 || minute + by > 30) {
            return true;
        }
        Boolean is = known.get(minute * 100 + cell);
        if (is == null) {
            is = false;
            for (int side = 0; side <= 4 && !is; side++) {
                is = leads(minute + by, step(cell, side), by, known);
            }
            known.put(minute * 100 + cell, is);
        }
        return is;
    }

    int thief(int minute) {
        if (!there || minute < 0 || minute > 30) {
            return NONE;
        }
        return cans(minute, new HashMap<>(), new HashMap<>());
    }

    private int cans(int minute, Map<Integer, Boolean> on, Map<Integer, Boolean> ahead) {
        int bits = 0;
        for (int cell : streets()) {
            if (leads(minute, cell, 1, on) && leads(minute, cell, -1, ahead)) {
                bits |= bit(cell);
            }
        }
        return bits;
    }

    int found(int what) {
        if (!there || what < 0 || what > 1) {
            return NONE;
        }
        Map<Integer, Boolean> on = new HashMap<>(), ahead = new HashMap<>();
        for (int minute = 0; minute <= 30; minute++) {
            for (int cell : streets()) {
                if (cans(minute, on, ahead) == bit(cell)) {
                    return what == 0 ? minute : cell;
                }
            }
        }
        return NONE;
    }

    int image() {
        if (!there) {
            return NONE;
        }
        image = now.copy();
        return now.hour;
    }

    int back() {
        if (image == null) {
            return NONE;
        }
        now = image.copy();
        acts.clear();
        return now.hour;
    }

    int count(int what) {
        int[] all = {rows.size(), columns(), streets().size(), sources.size(), laws.size(), tape.length(), now.hour,
            now.wind, now.rain, now.dull, trail.size(), notes.size(), acts.size()};
        return what < 0 || what >= all.length ? HIDDEN : all[what];
    }
}
