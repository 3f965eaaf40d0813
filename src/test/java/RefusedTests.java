import java.util.ArrayList;
import java.util.List;
import java.util.NoSuchElementException;

/** "What is refused answers as told and changes nothing": of each promise, on objects in many states. */
public final class RefusedTests {
    private static final int MAX = Integer.MAX_VALUE;
    private static final int MIN = Integer.MIN_VALUE;
    private static final int STATES = 6;

    /** A call that is refused, and what it answers. */
    private interface Call {
        long of(SmellMap x);
    }

    private static final class Refused {
        final int promise;
        final String name;
        final Call call;
        final long answer;
        /** The states in which it is refused, as bits. */
        final int states;

        Refused(int promise, String name, int states, long answer, Call call) {
            this.promise = promise;
            this.name = name;
            this.states = states;
            this.answer = answer;
            this.call = call;
        }
    }

    private static final int ALL = 63;
    private static final int NO_CITY = 3;
    private static final int EMPTY = 1 | 2 | 4;
    private static final int FULL = 32;
    private static final List<Refused> CALLS = new ArrayList<>();

    public static void main(String[] args) {
        texts();
        hands();
        questions();
        walks();
        for (Refused one : CALLS) {
            Check.edge(one.promise, "What is refused answers as told and changes nothing: " + one.name);
            for (int state = 0; state < STATES; state++) {
                if ((one.states >> state & 1) == 1) {
                    SmellMap x = made(state);
                    Check.due("in state " + state, one.call.of(x), one.answer);
                    Check.due("what is told in state " + state, told(x).equals(told(made(state))), true);
                }
            }
        }
        Check.edge(1, "An object is used for at most 512 calls: what later ones answer is free, but they do answer");
        SmellMap x = made(5);
        for (int n = 0; n < 3; n++) {
            told(x);
        }
        Check.due("it answers", x.count(13), -1000000);
        Check.close("RefusedTests");
    }

    private static void add(int promise, String name, int states, long answer, Call call) {
        CALLS.add(new Refused(promise, name, states, answer, call));
    }

    private static long whatever(long answer) {
        return 0;
    }

    private static long bit(boolean is) {
        return is ? 1 : 0;
    }

    /** 0 new, 1 laws and bytes without a city, 2 a city alone, 3 in use, 4 in use with an image, 5 full. */
    private static SmellMap made(int state) {
        SmellMap x = new SmellMap();
        if (state == 0) {
            return x;
        }
        for (int law = 0; law < (state == 5 ? 4 : 2); law++) {
            Check.put(x, "y:" + (law + 1) + "*p-f");
            x.text(1);
        }
        Check.put(x, "l..x");
        if (state == 1) {
            return x;
        }
        Check.put(x, "l...;l.#.;sp3;sk1r1c2p2f5u9;sk2p9");
        x.text(0);
        if (state == 2) {
            return x;
        }
        x.law(1);
        x.trail(0, 5);
        x.note(3, 2, 1, true);
        if (state >= 4) {
            x.set(3, 2);
            x.set(2, 4);
            x.open(1, false);
            x.image();
        }
        x.set(2, 990);
        x.set(0, 2);
        x.hours(3, 9);
        x.open(2, false);
        x.open(1, true);
        Check.put(x, "l.#;l.#;l#");
        if (state == 5) {
            fill(x);
        }
        return x;
    }

    private static void fill(SmellMap x) {
        for (int n = 0; n < 12; n++) {
            x.trail(n % 5, 5);
            x.note(n, 0, 9, n % 2 == 0);
        }
        for (int n = 0; n < 41; n++) {
            x.set(3, n % 3);
        }
        x.set(2, 999);
        Check.put(x, "y:5" + " ".repeat(157));
    }

    private static void texts() {
        add(2, "feed: more than 160", FULL, -1, x -> x.feed(0, 0, 0, 0, 'y'));
        add(2, "feed: twenty more than 160", FULL, -1, x -> x.feed(MIN + 0x10101, -1, -1, -1, -1));
        for (int n : new int[] {-1, 161, MAX, MIN}) {
            add(3, "end(" + n + ")", ALL, 0, x -> bit(x.end(n)));
        }
        add(3, "end: one more than it has", ALL, 0, x -> bit(x.end(x.count(5) + 1)));
        for (int sort : new int[] {2, -1, MAX, MIN}) {
            add(4, "fault(" + sort + ")", ALL, -2, x -> x.fault(sort));
            add(5, "text(" + sort + ")", ALL, -1, x -> x.text(sort));
        }
        add(4, "fault(0) tells, and changes nothing", 2, 3, x -> x.fault(0));
        add(4, "fault(1) tells, and changes nothing", ALL & ~FULL, 0, x -> x.fault(1));
        add(5, "text(0): a FAULT", ALL, -1, x -> x.text(0));
        add(5, "text(1): a FAULT, or there are four", ALL, -1, x -> x.text(1));
    }

    private static void hands() {
        for (int law : new int[] {-2, 4, MAX, MIN}) {
            add(8, "law(" + law + ")", ALL, 0, x -> bit(x.law(law)));
        }
        add(8, "law: no such one", ALL, 0, x -> bit(x.law(x.count(4))));
        add(8, "law: no CITY", NO_CITY, 0, x -> bit(x.law(0)) + bit(x.law(-1)));
        int[][] sets = {{0, 5}, {0, -1}, {1, 2}, {1, -1}, {2, 1000}, {2, -1}, {3, 51}, {3, -1}, {4, 0}, {4, 1}, {-1, 0}, {-1, 1},
            {MAX, 1}, {MIN, 0}, {0, MAX}, {3, MIN}};
        for (int[] s : sets) {
            add(9, "set(" + s[0] + ", " + s[1] + ")", ALL, 0, x -> bit(x.set(s[0], s[1])));
        }
        int[] counts = {7, 8, 6, 9};
        for (int what = 0; what < 4; what++) {
            int w = what;
            add(9, "set(" + w + "): it is so", ALL, 0, x -> bit(x.set(w, x.count(counts[w]))));
            add(9, "set(" + w + "): no CITY", NO_CITY, 0, x -> bit(x.set(w, 1)));
        }
        for (int source : new int[] {3, 6, -1, 32, MAX, MIN}) {
            add(10, "open(" + source + ")", ALL, 0, x -> bit(x.open(source, true)) + bit(x.open(source, false)));
        }
        add(10, "open: it is so", ALL & ~NO_CITY, 0, x -> bit(x.open(0, x.source(0, 5) == 1)) + bit(x.open(2, x.source(2, 5) == 1)));
        add(10, "open: no CITY", NO_CITY, 0, x -> bit(x.open(0, true)) + bit(x.open(0, false)));
        for (int n : new int[] {0, 25, -1, MAX, MIN}) {
            add(11, "hours(" + n + ")", ALL, -1, x -> x.hours(n, 5));
        }
        add(11, "hours: the HOUR would be above 999", ALL & ~NO_CITY & ~4, -1, x -> x.hours(24, 5));
        add(11, "hours: the HOUR would be above 999 by one", FULL, -1, x -> x.hours(1, 5));
        add(11, "hours: no CITY", NO_CITY, -1, x -> x.hours(1, 5));
        add(12, "undo: none", EMPTY, -1, x -> x.undo());
        add(31, "image: no CITY", NO_CITY, -1, x -> x.image());
        add(32, "back: no IMAGE", EMPTY | 8, -1, x -> x.back());
    }

    private static long thrown(SmellMap x, int source, int what) {
        try {
            return x.source(source, what);
        } catch (NoSuchElementException e) {
            return MIN;
        }
    }

    private static void questions() {
        int[][] sources = {{-1, 0}, {3, 0}, {6, 6}, {0, -1}, {0, 7}, {MAX, 0}, {0, MIN}};
        for (int[] s : sources) {
            add(6, "source(" + s[0] + ", " + s[1] + ")", ALL, MIN, x -> thrown(x, s[0], s[1]));
        }
        for (int cell : new int[] {-1, 3, 13, 20, MAX, MIN}) {
            add(7, "street(" + cell + ")", ALL, -1, x -> x.street(cell));
        }
        for (int cell : new int[] {-1, 3, 11, 13, 20, MAX, MIN}) {
            add(13, "far of " + cell, ALL, -1, x -> Math.max(x.far(cell, 0), x.far(0, cell)));
            add(14, "smell(" + cell + ", 0)", ALL, -1, x -> x.smell(cell, 0));
            add(15, "breath(" + cell + ")", ALL, -1, x -> x.breath(cell));
            add(16, "strongest(" + cell + ")", ALL, -1, x -> x.strongest(cell));
            add(20, "door(" + cell + ")", ALL, -1, x -> x.door(cell));
            add(24, "forged(" + cell + ", 0)", ALL, -1, x -> x.forged(cell, 0));
            add(25, "follow(" + cell + ", 0, 0)", ALL, -1, x -> x.follow(cell, 0, 0));
            add(27, "sure(" + cell + ", 0)", ALL, -1, x -> x.sure(cell, 0));
        }
        for (int kind : new int[] {-1, 5, MAX, MIN}) {
            add(14, "smell(0, " + kind + ")", ALL, -1, x -> x.smell(0, kind));
            add(24, "forged(0, " + kind + ")", ALL, -1, x -> x.forged(0, kind));
            add(25, "follow(0, " + kind + ", 1)", ALL, -1, x -> x.follow(0, kind, 1));
            add(26, "led(" + kind + ")", ALL, -1, x -> x.led(kind));
            add(23, "unlike of " + kind, ALL, -1, x -> Math.max(x.unlike(kind, 0), x.unlike(0, kind)));
            add(33, "count of others", ALL, -1000000, x -> x.count(kind == 5 ? 13 : kind));
        }
        for (int what : new int[] {-1, 2, MAX, MIN}) {
            add(19, "where(" + what + ")", ALL, -1, x -> x.where(what));
            add(21, "most(" + what + ")", ALL, -1, x -> x.most(what));
            add(25, "follow(0, 0, " + what + ")", ALL, -1, x -> x.follow(0, 0, what));
            add(27, "sure(0, " + what + ")", ALL, -1, x -> x.sure(0, what));
            add(30, "found(" + what + ")", ALL, -1, x -> x.found(what));
        }
        add(22, "silent: no CITY", NO_CITY, -1, x -> x.silent());
    }

    private static void walks() {
        int[][] trails = {{-1, 0}, {5, 0}, {0, -1}, {0, 32}, {MAX, MIN}};
        for (int[] t : trails) {
            add(17, "trail(" + t[0] + ", " + t[1] + ")", ALL, -1, x -> x.trail(t[0], t[1]));
        }
        add(17, "trail: there are twelve", FULL, -1, x -> x.trail(0, 0));
        add(17, "trail: no CITY", NO_CITY, -1, x -> x.trail(0, 0));
        add(18, "wipe: it is", EMPTY, 0, x -> bit(x.wipe()));
        int[][] notes = {{-1, 0, 0}, {31, 0, 0}, {0, 11, 0}, {0, 3, 0}, {0, -1, 0}, {0, 0, -1}, {0, 0, 10}, {MAX, MIN, 0}};
        for (int[] n : notes) {
            add(28, "note(" + n[0] + ", " + n[1] + ", " + n[2] + ")", ALL, -1, x -> x.note(n[0], n[1], n[2], true));
        }
        add(28, "note: there are twelve", FULL, -1, x -> x.note(0, 0, 0, true));
        add(28, "note: no CITY", NO_CITY, -1, x -> x.note(0, 0, 0, true));
        for (int minute : new int[] {-1, 31, MAX, MIN}) {
            add(29, "thief(" + minute + ")", ALL, -1, x -> x.thief(minute));
        }
        add(29, "thief: no CITY", NO_CITY, -1, x -> x.thief(0));
        // Questions change nothing either: sure, unlike and forged reckon with other winds, sources and sets.
        add(23, "unlike asks, and changes nothing", ALL & ~NO_CITY, 0, x -> whatever(x.unlike(1, 3)));
        add(24, "forged asks, and changes nothing", ALL & ~NO_CITY, 0, x -> whatever(x.forged(1, 3)));
        add(27, "sure asks, and changes nothing", ALL & ~NO_CITY, 0, x -> whatever(x.sure(0, 0)));
        add(20, "door asks, and changes nothing", ALL & ~NO_CITY, 0, x -> whatever(x.door(0)));
        add(21, "most asks, and changes nothing", ALL & ~NO_CITY, 0, x -> whatever(x.most(0)));
        add(29, "thief asks, and changes nothing", ALL & ~NO_CITY, 0, x -> whatever(x.thief(4)));
    }

    /** All that an object tells, and then what it tells while all is undone, gone back to, and read again. */
    private static String told(SmellMap x) {
        StringBuilder b = new StringBuilder();
        asked(x, b);
        int acts = x.count(12);
        for (int n = 0; n <= acts; n++) {
            b.append(x.undo()).append(' ');
            weather(x, b);
        }
        b.append(x.back()).append(' ');
        weather(x, b);
        for (int law = -1; law <= 4; law++) {
            b.append(x.law(law)).append(x.smell(0, 0)).append(' ');
        }
        b.append(x.fault(0)).append(' ').append(x.fault(1)).append(' ');
        b.append(x.text(1)).append(' ').append(x.text(0)).append(' ');
        for (int n = x.count(5); n >= 0; n--) {
            x.end(n);
            b.append(x.fault(0)).append(' ').append(x.fault(1)).append(' ');
        }
        return b.toString();
    }

    private static void weather(SmellMap x, StringBuilder b) {
        for (int what = 0; what <= 12; what++) {
            b.append(x.count(what)).append(' ');
        }
        for (int source = 0; source < x.count(3); source++) {
            b.append(x.source(source, 5)).append(x.source(source, 6)).append(' ');
        }
    }

    private static void asked(SmellMap x, StringBuilder b) {
        weather(x, b);
        for (int cell = 0; cell < 20; cell++) {
            b.append(x.street(cell)).append(x.breath(cell)).append(x.strongest(cell)).append(x.far(0, cell)).append(' ');
            for (int kind = 0; kind < 5; kind++) {
                b.append(x.smell(cell, kind)).append(' ');
            }
        }
        for (int source = 0; source < x.count(3); source++) {
            for (int what = 0; what <= 6; what++) {
                b.append(x.source(source, what)).append(' ');
            }
        }
        b.append(x.where(0)).append(' ').append(x.where(1)).append(' ').append(x.silent()).append(' ');
        for (int minute = 0; minute <= 30; minute++) {
            b.append(x.thief(minute)).append(' ');
        }
        b.append(x.sure(0, 0)).append(' ').append(x.found(1)).append(' ').append(x.most(0)).append(' ');
    }
}
