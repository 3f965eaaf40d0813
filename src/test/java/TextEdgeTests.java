/** The tape, the texts of cities and of laws: each sentence of the document that names a boundary, by itself. */
public final class TextEdgeTests {
    public static void main(String[] args) {
        feeds();
        ends();
        sorts();
        clauses();
        rows();
        sources();
        items();
        numbers();
        blanks();
        tooEarly();
        lawClauses();
        conditions();
        sums();
        withinOneAnother();
        lawBlanks();
        newCities();
        newLaws();
        refusedTexts();
        bounds();
        quotients();
        worths();
        truths();
        Check.close("TextEdgeTests");
    }

    private static void edge(int promise, String sentence) {
        Check.edge(promise, sentence);
    }

    private static void due(String what, long got, long want) {
        Check.due(what, got, want);
    }

    private static void due(String what, boolean got, boolean want) {
        Check.due(what, got, want);
    }

    private static void city(String... marked) {
        for (String one : marked) {
            Check.read(0, one);
        }
    }

    private static void law(String... marked) {
        for (String one : marked) {
            Check.read(1, one);
        }
    }

    private static SmellMap full(int bytes) {
        SmellMap x = new SmellMap();
        for (int n = 0; n < bytes; n++) {
            x.feed(0, 0, 'x', 0, 0);
        }
        return x;
    }

    private static void feeds() {
        edge(2, "Twenty bytes more come to the TAPE");
        SmellMap x = new SmellMap();
        due("twenty", x.feed(0x6c2e3b73, 0x20202020, 0x20202020, 0x2020203b, 0x20202020), 20);
        due("where their text is wrong", x.fault(0), 20);
        due("and twenty more", x.feed(0x20202020, 0x20202020, 0x20202020, 0x20202020, 0x20202073), 40);
        due("where both are wrong", x.fault(0), -1);

        edge(2, "of each number the highest first");
        x = new SmellMap();
        x.feed(0x6c2e3b73, 0, 0, 0, 0);
        due("l.;s", x.fault(0), -1);
        x.end(0);
        x.feed(0x733b2e6c, 0, 0, 0, 0);
        due("s;.l", x.fault(0), 2);
        for (int place = 0; place < 5; place++) {
            int[] n = new int[5];
            n[place] = 0x6c2e3b73;
            x.end(0);
            due("four in number " + place, x.feed(n[0], n[1], n[2], n[3], n[4]), 4);
            due("they are l.;s", x.fault(0), -1);
        }
        x.end(0);
        x.feed('l', '.', ';', 's', 'd');
        due("l.;sd, one in each", x.fault(0), 4);

        edge(2, "bytes of 0 are left out");
        x = new SmellMap();
        due("one in each number, at its own place", x.feed(0x6c000000, 0x2e0000, 0x3b00, 0x73, 0), 4);
        due("they are l.;s", x.fault(0), -1);
        due("with zeros between", x.feed(0x00640000, 0, 0, 0, 0x006e0031), 7);
        due("they are l.;sdn1", x.fault(0), 4);
        due("zeros alone", new SmellMap().feed(0, 0, 0, 0, 0), 0);

        edge(2, "bytes, of numbers below 0 too");
        x = new SmellMap();
        due("the highest bit of each", x.feed(Integer.MIN_VALUE, Integer.MIN_VALUE, 0, 0, 0x80), 3);
        due("all bits", x.feed(-1, -1, -1, -1, -1), 23);

        edge(2, "every byte but 0 is one more");
        for (int b = 1; b < 256; b++) {
            due("byte " + b, new SmellMap().feed(0, b << 24, 0, b << 8, 0), 2);
            due("byte " + b + " on 160", full(160).feed(0, 0, b << 16, 0, 0), -1);
        }

        edge(2, "how many it has");
        x = full(3);
        due("three", x.count(5), 3);
        due("none more", x.feed(0, 0, 0, 0, 0), 3);
        due("two more", x.feed('x', 0, 0, 0, 'x'), 5);

        edge(2, "NONE: more than 160");
        due("the hundred-and-sixtieth", full(159).feed(0, 0, 0, 0, 'x'), 160);
        due("the next", full(160).feed(0, 0, 0, 0, 'x'), -1);
        due("zeros are none more", full(160).feed(0, 0, 0, 0, 0), 160);
        due("twenty on 140", full(140).feed(-1, -1, -1, -1, -1), 160);
        due("twenty on 141", full(141).feed(-1, -1, -1, -1, -1), -1);
        due("nineteen on 141", full(141).feed(-1, -1, -1, -1, 0x00ffffff), 160);
        x = full(155);
        due("six on 155", x.feed(-1, -1 << 16, 0, 0, 0), -1);
        due("none of them has come", x.count(5), 155);
        due("five on 155", x.feed(-1, -1 << 24, 0, 0, 0), 160);
    }

    private static void ends() {
        edge(3, "The TAPE has its first n bytes alone");
        SmellMap x = new SmellMap();
        Check.put(x, "l.;sp9");
        due("end(6) of six", x.end(6), true);
        due("six", x.count(5), 6);
        due("end(5)", x.end(5), true);
        due("five", x.count(5), 5);
        due("l.;sp", x.fault(0), 5);
        due("end(4)", x.end(4), true);
        due("l.;s", x.fault(0), -1);
        x.feed('k', '5', 0, 0, 0);
        due("l.;sk5", x.fault(0), 5);
        due("end(1)", x.end(1), true);
        due("l", x.fault(0), 1);
        due("end(0)", x.end(0), true);
        due("none", x.count(5), 0);
        due("end(0) of none", x.end(0), true);
        due("end(160) of 160", full(160).end(160), true);

        edge(3, "its first n bytes alone: of the others nothing is left");
        x = new SmellMap();
        Check.put(x, "l.;s;             d");
        x.end(5);
        due("l.;s; ends too early", x.fault(0), 5);
        due("text(0)", x.text(0), -1);
        x.end(4);
        due("l.;s", x.fault(0), -1);
        Check.put(x, "y:1+              2");
        x.end(4);
        due("y:1+ ends too early", x.fault(1), 4);
        Check.put(x, "y:1234");
        x.end(3);
        due("text(1) of y:1", x.text(1), 0);
        Check.put(x, "l.;s");
        x.text(0);
        x.law(0);
        due("its worth", x.smell(0, 0), 1);

        edge(3, "False: n");
        x = full(6);
        due("end(7) of six", x.end(7), false);
        due("end(-1)", x.end(-1), false);
        due("end(min)", x.end(Integer.MIN_VALUE), false);
        due("end(max)", x.end(Integer.MAX_VALUE), false);
        due("end(161) of six", x.end(161), false);
        due("six still", x.count(5), 6);
        due("end(1) of none", new SmellMap().end(1), false);
        due("end(161) of 160", full(160).end(161), false);
    }

    private static void sorts() {
        edge(4, "-2: no such sort");
        SmellMap x = new SmellMap();
        for (int odd : new int[] {-1, 2, 3, Integer.MAX_VALUE, Integer.MIN_VALUE}) {
            due("fault(" + odd + ")", x.fault(odd), -2);
        }
        Check.put(x, "l.;s");
        due("fault(2) of a city", x.fault(2), -2);
        due("fault(-1) of a city", x.fault(-1), -2);

        edge(4, "The FAULT of the TAPE as a CITY (0), a LAW (1)");
        due("a city as a city", x.fault(0), -1);
        due("a city as a law", x.fault(1), 0);
        Check.put(x, "y:1");
        due("a law as a city", x.fault(0), 0);
        due("a law as a law", x.fault(1), -1);
        due("the tape is as it was", x.count(5), 3);

        edge(4, "the first byte at which no such TEXT can go on: each other sign");
        each(0, "", "lsd ");
        each(0, "l", ".# ");
        each(0, "l.", ".#; ");
        each(0, "l.....", "; ");
        each(0, "l.;", "lsd ");
        each(0, "s", "krcfup; ");
        each(0, "sk", "01234 ");
        each(0, "sk1", "rcfup; ");
        each(0, "sp", "123456789 ");
        each(0, "d", "n; ");
        each(0, "dn1", "0123456789; ");
        each(1, "", "y ");
        each(1, "y", ": ");
        each(1, "y:", "!([pfhkw0123456789 ");
        each(1, "y:p", "+-*/=<>; ");
        each(1, "y:1", "0123456789+-*/=<>; ");
        each(1, "y:1 ", "+-*/=<>; ");
        each(1, "y:p+", "[pfhkw0123456789 ");
        each(1, "y:[", "[pfhkw0123456789 ");
        each(1, "y:[p", "+-*/] ");
        each(1, "y:p=", "[pfhkw0123456789 ");
        each(1, "y:p=p", "+-*/&|? ");
        each(1, "y:(p=p", "+-*/&|) ");
        each(1, "y:(p=p)", "&|? ");
        each(1, "y:!", "!([pfhkw0123456789 ");
        each(1, "y:p=p&", "!([pfhkw0123456789 ");
        each(1, "y:p=p?p", "+-*/; ");
    }

    /** Behind a text each byte is tried: a sign of some goes on (it is wrong behind it, or not at all). */
    private static void each(int sort, String text, String goesOn) {
        for (int sign = 1; sign < 256; sign++) {
            String more = text + (char) sign;
            int got = sort == 0 ? Check.cityFault(more) : Check.lawFault(more);
            due("byte " + sign + " behind \"" + text + "\" is wrong", got == text.length(), goesOn.indexOf(sign) < 0);
        }
    }

    private static void clauses() {
        edge(4, "CLAUSES with ; between");
        city("l.;s", "^;l.;s", "l.;^;s", "l.;s;^", "l. ^s", "l.^s", "s ^l.", "s;l.", "l.;s;^;",
            "l.;sp1;^");

        edge(4, "in any order");
        city("dn2;s;l.", "s;dn2;l.", "s;l.;d", "l.;s;l.;s;d;l.", "sr1;l.;l.;s");

        edge(4, "the first byte: one of none of the letters");
        city("^x", "^L.;s", "l.;^S", "l.;s;^D", "^1", "^.", "l.;s;^y", "^" + (char) 233, "^" + (char) 9);
    }

    private static void rows() {
        edge(4, "a ROW; 1 .. 4");
        city("l.;s", "l.;l.;s", "l.;l.;l.;s", "l.;l.;l.;l.;s");

        edge(4, "a fifth l at it");
        city("l.;l.;l.;l.;^l.;s", "l.;l.;l.;l.;^l", "l.;l.;l.;l.;s; ^l.", "s;l.;l.;l.;l.;^l.....;s;s;s;s;s;s");

        edge(5, "from above");
        SmellMap x = Check.city("l.#;l#.;l..;s");
        int[][] want = {{0, 1}, {1, 0}, {10, 0}, {11, 1}, {20, 1}, {21, 1}};
        for (int[] w : want) {
            due("street(" + w[0] + ")", x.street(w[0]), w[1]);
        }

        edge(4, "right behind it (blanks may stand between) signs . or #");
        city("l .;s", "l   . #;s", "l^;s", "l ^;s", "l^", "l ^", "l^x;s", "l.^x;s", "l.^,;s", "l.^k;s", "l^1;s");

        edge(4, "1 .. 5");
        city("l.;s", "l..;s", "l...;s", "l....;s", "l.....;s", "l#####;l.....;sr1");

        edge(4, "a sixth sign of a ROW at it");
        city("l.....^.;s", "l#####^#;s", "l.....^#", "l. . . . . ^.;s", "l.;l.....^.;s", "l.....^..;s");

        edge(5, "one for each CELL");
        for (int columns = 1; columns <= 5; columns++) {
            SmellMap y = Check.city("l" + ".....".substring(0, columns) + ";s");
            due("columns", y.count(1), columns);
            due("streets", y.count(2), columns);
            due("the last", y.street(columns - 1), 1);
            due("none behind it", y.street(columns), -1);
        }

        edge(4, "all ROWS as many: the length, with ROWS unlike in length");
        city("l.;l..;s^", "l..;l.;s^", "l..;l..;l.;s^", "l.....;l....;s ^", "l..;l.;^x", "l..;l..;s");
    }

    private static void sources() {
        edge(4, "a SOURCE; 1 .. 6");
        String text = "l.";
        for (int n = 1; n <= 6; n++) {
            text += ";s";
            city(text);
            due(n + " sources", Check.city(text).count(3), n);
        }

        edge(4, "a seventh s at it");
        city("l.;s;s;s;s;s;s;^s", "s;s;s;s;s;s;l.;^sk1", "s;s;s;s;s;s;^s", "s;s;s;s;s;s; ^s");

        edge(4, "one d at most: a second d at it");
        city("l.;s", "l.;s;d", "d;l.;s", "l.;s;d;^d", "d;^d;l.;s", "dn1;l.;s; ^dn1");

        edge(4, "the length, without a SOURCE");
        city("l.^", "l.;d^", "l.;l.;dn3 ^", "l.;s");

        edge(4, "the length, without a ROW");
        city("s^", "s;d^", "s;s;s;s;s;s^", "dn3^");

        edge(4, "the length, without a STREET");
        city("l#;s^", "l#####;l#####;s^", "l#;l#;l#;l#;sr3^", "l#;l.;sr1");

        edge(4, "the length, with a SOURCE that is not on a STREET: on a WALL");
        city("l.#;sc1^", "l.;l#;s;sr1^", "l#.;s^", "l#.;sc1");

        edge(4, "the length, with a SOURCE that is not on a STREET: behind the last COLUMN");
        city("l.;sc1^", "l..;l..;sc2^", "l..;l..;sc3^", "l....;l....;sr1c4^", "l..;l..;sc1", "l.....;sc4");

        edge(4, "the length, with a SOURCE that is not on a STREET: below the last ROW");
        city("l.;sr1^", "l.....;l.....;l.....;sr3^", "l.....;l.....;sr3c4^", "l.;l.;l.;l.;sr3");

        edge(4, "the length, with one SOURCE of six that is not on a STREET");
        city("l.#;s;s;s;s;s;sc1^", "l.#;sc1;s;s;s;s;s^", "l.#;s;s;s;s;s;s");

        edge(4, "the first byte: a wrong sign ahead of the length");
        city("l#;s;^x", "s;^x", "l.;l..;^x", "l.;sc1^x", "l.;sr1;^x");
    }

    private static void items() {
        edge(4, "ITEMS, none or more");
        city("l.;s", "l.;s;d", "l.;sk1", "l.;sk1r0", "l.;sk1r0c0", "l.;sk1r0c0f1", "l.;sk1r0c0f1u2", "l.;sk1r0c0f1u2p3",
            "l.;sp3u2f1c0r0k1", "l.;s;dn1");

        edge(4, "a letter: of s: k r c f u p");
        city("l.;s^n1", "l.;s^x1", "l.;s^K1", "l.;s^w1", "l.;s^1", "l.;sk1^n1");

        edge(4, "a letter: of d: n");
        for (char letter : "krcfup".toCharArray()) {
            city("l.;s;d^" + letter + "1", "l.;s;dn1^" + letter + "1");
        }
        city("l.;s;d^N1", "l.;s;d^1");

        edge(4, "a letter that was there at it (each once at most in a CLAUSE)");
        for (char letter : "krcfup".toCharArray()) {
            city("l.;s" + letter + "1^" + letter + "1", "l.;s" + letter + "1 ^" + letter);
        }
        city("l.;sk1r0^k1", "l.;sp1u1f1c0r0k1^p1", "l.;s;dn1^n1", "l.;s;dn1^n2");

        edge(4, "in another CLAUSE it may be there again");
        city("l.;sk1;sk1", "l.;sk1r0c0f1u2p3;sk1r0c0f1u2p3;dn1");
    }

    private static void numbers() {
        edge(4, "a number (one or two digits)");
        city("l.;sk^", "l.;sk^;", "l.;sk^r0", "l.;sk^k1", "l.;sk ^x", "l.;s;dn^", "l.;s;dn^;", "l.;sk1", "l.;sk01", "l.;s;dn07");

        edge(4, "a third digit (whatever stands ahead of it) itself");
        city("l.;sk00^1", "l.;sk00^0", "l.;sk99^9", "l.;sp00^5", "l.;sf24^0", "l.;su23^0", "l.;s;dn51^0", "l.;s;dn05^0",
            "l.;sr44^4", "l.;sc55^5", "l.;sk56^78");

        edge(4, "KIND (0 .. 4)");
        bounded("l.;sk", 0, 4);
        edge(4, "ROW (0 .. 3)");
        bounded("l.;l.;l.;l.;sr", 0, 3);
        edge(4, "COLUMN (0 .. 4)");
        bounded("l.....;sc", 0, 4);
        edge(4, "FROM which hour (0 .. 23)");
        bounded("l.;sf", 0, 23);
        edge(4, "UNTIL which (0 .. 23)");
        bounded("l.;su", 0, 23);
        edge(4, "POWER (1 .. 9)");
        bounded("l.;sp", 1, 9);
        edge(4, "DULL (0 .. 50)");
        bounded("l.;s;dn", 0, 50);

        edge(4, "a number out of bounds is wrong at its last digit");
        city("l.;sk^5", "l.;sk0^5", "l.;sk5^6", "l.;sp^0", "l.;sp0^0", "l.;sp1^0", "l.;sf2^4",
            "l.;sf9^9", "l.;sr^4", "l.;sc^5", "l.;s;dn5^1", "l.;sk^5 6", "l.;sk^5r0", "l.;sp^0;s");

        edge(4, "it is wrong there, even if the SOURCE would not be on a STREET, or a letter was there behind it");
        city("l.;sr^4", "l.;sk^5k1", "l.;sp1^0p1");
    }

    /** Every number of one and of two digits is right within the bounds, and else wrong at its last digit. */
    private static void bounded(String text, int least, int most) {
        for (int v = 0; v <= 99; v++) {
            boolean right = v >= least && v <= most;
            String two = text + v / 10 + (right ? "" : "^") + v % 10;
            city(two);
            if (v < 10) {
                city(text + (right ? "" : "^") + v);
            }
        }
    }

    private static void blanks() {
        edge(4, "Blanks (32) may stand between all signs of a CITY");
        city(" l . # ; l . . ; s k 1 r 1 c 0 f 5 u 6 p 7 ; d n 9 ", "  l  .  ;  s  ", "l.;s k0", "l.;sk 0", "l.;sk0 r0");
        for (int at = 0; at <= "l.#;l..;sk1r1p7;dn9".length(); at++) {
            String t = "l.#;l..;sk1r1p7;dn9";
            city(t.substring(0, at) + " " + t.substring(at));
        }

        edge(4, "not within numbers of a CITY");
        city("l.;sf1 ^2", "l.;su2 ^3", "l.;s;dn5 ^0", "l.;s;dn0 ^1", "l.;sf1 ^2 3");
        edge(4, "no other sign is a blank");
        for (int sign : new int[] {9, 10, 13, 31, 33, 127, 133, 160, 255}) {
            city("l.^" + (char) sign + ";s", "^" + (char) sign + "l.;s", "l.;s^" + (char) sign);
            law("y:1^" + (char) sign, "y^" + (char) sign + ":1", "^" + (char) sign + "y:1");
        }
    }

    private static void tooEarly() {
        edge(4, "the length, if it ends too early: a CITY");
        city("^", " ^", "   ^", "l^", "l.;^", "l.; ^", "l.;s;^", "l.;s;  ^", "l.;sk^", "l.;sk ^", "l.;s;d;^");
        edge(4, "the length, if it ends too early: a LAW");
        law("^", " ^", "y^", "y ^", "y:^", "y: ^", "y:1;^", "y:1; ^", "y:1+^", "y:1 * ^", "y:[^", "y:[1^", "y:(^", "y:!^",
            "y:p=^", "y:p=1^", "y:p=1|^", "y:p=1&^", "y:(p=1^", "y:(p=1)^", "y:p=1?^", "y:!p^", "y:!p=1^", "y:(p^");
        edge(4, "the length of a full TAPE");
        String terms = "+p".repeat(78);
        law("y:10" + terms, "y:1" + terms + " ", "y:1" + terms + "+^", "y:1" + terms + "^p", "y:" + terms.substring(1) + "+f ");
        city("l.;s" + " ".repeat(156), "l." + " ".repeat(158) + "^", "l.;s" + " ".repeat(155) + "^x");
    }

    private static void lawClauses() {
        edge(4, "LAWS: CLAUSES with ; between, one at least");
        law("^", "y:1", "y:1;y:2", "^;y:1", "y:1;^;y:2", "y:1;^", "y:1 ^y:2", "y:1^y:2", "y:1;y:2;y:3;y:4;y:5;y:6;y:7;y:8");
        edge(4, "y, :");
        law("^x:1", "^:1", "^1", "y^1", "y^;", "y^y:1", "y:^:1", "^Y:1", "y:1;^z:1", "y:1;y^1", "y:^;", "y:^y:1");
        edge(4, "perhaps CONDITION ?, then SUM");
        law("y:1", "y:p=1?1", "y:^?1", "y:p^?1", "y:p=1?^?1", "y:p=1?1^?1", "y:p=1^;y:1", "y:p=1?^;y:1", "y:p=1?1^=2",
            "y:p=1?1^&p=1", "y:p=1?1^|p=1", "y:p=1?^(p=1)?1", "y:p=1?^!p=1?1", "y:p=1?1;y:p=2?2;y:3");
    }

    private static void conditions() {
        edge(4, "TRUTHS with | between");
        law("y:p=1|p=2?1", "y:p=1|p=2|p=3?1", "y:^|p=1?1", "y:p=1|^|p=2?1", "y:p=1|^?1", "y:p^|f=1?1", "y:p=1|f^?1",
            "y:p=1|^&p=1?1");
        edge(4, "UNITS with & between");
        law("y:p=1&p=2?1", "y:p=1&p=2&p=3?1", "y:^&p=1?1", "y:p=1&^&p=2?1", "y:p=1&^?1", "y:p^&f=1?1", "y:p=1&f^?1",
            "y:p=1&^|p=1?1");
        edge(4, "UNIT: ! UNIT");
        law("y:!p=1?1", "y:!!p=1?1", "y:!(p=1)?1", "y:p=1&!p=2?1", "y:p=1|!p=2?1", "y:!^?1", "y:!p^?1", "y:p^!=1?1",
            "y:p=^!1?1", "y:!^&p=1?1", "y:p=1^!?1");
        edge(4, "UNIT: ( CONDITION )");
        law("y:(p=1)?1", "y:(p=1|p=2&p=3)?1", "y:(!p=1)?1", "y:((p=1))?1", "y:(^)?1", "y:(p=1^?1", "y:p=1^)?1",
            "y:(p=1)^)?1", "y:(p=1)^(p=1)?1", "y:p=1^(p=1)?1", "y:(p=1^]?1", "y:p=1&(p=2)?1", "y:p=^(1)?1", "y:(p=1)^=1?1");
        edge(4, "UNIT: SUM, one of = < >, SUM");
        law("y:p=1?1", "y:p<1?1", "y:p>1?1", "y:1+p*2=[f]-3?1", "y:p=^=1?1", "y:p<^=1?1", "y:p>^<1?1", "y:p=1^=1?1",
            "y:^=1?1", "y:p=^?1", "y:[p^=1", "y:p^!=1?1");
        edge(4, "A CLAUSE that goes on with ! or ( behind its : has a CONDITION");
        law("y:(p^)", "y:(1^)+2", "y:(p=1)^", "y:(p=1)^+1", "y:(p=1)^*1", "y:(p=1)^;y:1", "y:!p^", "y:!1^;y:1", "y:!p=1^",
            "y: ( p ^)", "y: ! p ^;", "y:!p=1^;y:1", "y:1;y:(1^)", "y:1;y:!1^", "y:!(p=1)^", "y:([p]^)", "y:(p=1)?1", "y:!p=1?1");
    }

    private static void sums() {
        edge(4, "SUM: TERMS with + or - between");
        law("y:1+2", "y:1-2", "y:1+2-3+4", "y:^+1", "y:^-1", "y:1+^+2", "y:1-^-2", "y:1+^-2", "y:1+^;", "y:1*2+3/4-5");
        edge(4, "TERM: ATOMS with * or / between");
        law("y:1*2", "y:1/2", "y:1*2/3*4", "y:^*1", "y:^/1", "y:1*^*2", "y:1/^/2", "y:1*^+2", "y:1/^;", "y:1+^*2");
        edge(4, "ATOM: a number (1 to 4 digits)");
        law("y:0", "y:00", "y:000", "y:0000", "y:9999", "y:1+9999", "y:9999=9999?9999");
        edge(4, "a fifth digit in a LAW itself");
        law("y:0000^0", "y:9999^9", "y:1234^5", "y:1234^56", "y:1+0000^1", "y:p=1234^5?1", "y:p=1?1234^5", "y:[1234^5]");
        edge(4, "ATOM: a letter (p f h k w)");
        law("y:p", "y:f", "y:h", "y:k", "y:w", "y:^r", "y:^c", "y:^u", "y:^n", "y:^P", "y:p^f", "y:p^1", "y:1^p", "y:p+^s");
        edge(4, "ATOM: [ SUM ]");
        law("y:[1]", "y:[1+2]", "y:[[1]]", "y:[1]*[2]", "y:[^]", "y:1^]", "y:[1]^]", "y:[1^)", "y:[1^;y:1", "y:[1^=1]?1",
            "y:[^(1)]", "y:[^!1]", "y:[1]^[1]", "y:p^[1]", "y:[1^?1", "y:[1^&1]", "y:[1^|1]", "y:^]");
    }

    private static void withinOneAnother() {
        edge(4, "At most six of ( [ ! within one another");
        law("y:[[[[[[1]]]]]]", "y:((((((p=1))))))?1", "y:!!!!!!p=1?1", "y:!(!(!(p=1)))?1", "y:(((([[p]]=1))))?1",
            "y:!!!!![p]=1?1", "y:p=1?[[[[[[1]]]]]]", "y:p=[[[[[[1]]]]]]?1",
            "y:p=1&((((((p=1))))))?1", "y:p=1|((((((p=1))))))?1", "y:p=1&!!!!!!p=1?1", "y:p=1|!!!!!!p=1?1",
            "y:p=1|p=1&[[[[[[1]]]]]]=1?1");
        edge(4, "a seventh of ( [ ! at it");
        law("y:[[[[[[^[1]]]]]]]", "y:((((((^(p=1)))))))?1", "y:!!!!!!^!p=1?1", "y:!(!(!(^!p=1)))?1", "y:((((((^[p]=1))))))?1",
            "y:!!!!!!^[p]=1?1", "y:!!!!!!p=^[1]?1", "y:!!!!!!^(p=1)?1", "y:(((([[^[p]]]=1))))?1", "y:p=1?[[[[[[^[1]]]]]]]",
            "y:p=[[[[[[^[1]]]]]]]?1", "y:[[[[[[^[", "y:!!!!!!^!", "y:1;y:[[[[[[^[1", "y:((((((p=1&^(p=1");
        edge(4, "within one another, not beside one another");
        law("y:[1]+[2]+[3]+[4]+[5]+[6]+[7]+[8]", "y:!p=1&!p=2&!p=3&!p=4&!p=5&!p=6&!p=7&!p=8?1",
            "y:(p=1)|(p=2)|(p=3)|(p=4)|(p=5)|(p=6)|(p=7)?1", "y:[[[[[[1]]]]]]+[[[[[[1]]]]]]",
            "y:!!!!!!p=1&!!!!!!p=1|!!!!!!p=1?[[[[[[1]]]]]];y:[[[[[[1]]]]]]", "y:((((((p=1))))))&((((((p=1))))))?1",
            "y:!!![[[1]]]=[[[1]]]&!!!p=1?1", "y:[[[[[[1]]]]]]=[[[[[[1]]]]]]?[[[[[[1]]]]]]");
    }

    private static void lawBlanks() {
        edge(4, "Blanks (32) may stand between all signs of a LAW");
        String t = "y:!(p=1|[f+2]*3>4)&h<5?6-k/7;y:w";
        law(t);
        for (int at = 0; at <= t.length(); at++) {
            law(t.substring(0, at) + " " + t.substring(at), t.substring(0, at) + "   " + t.substring(at));
        }
        edge(4, "not within numbers of a LAW");
        law("y:1 ^2", "y:12 ^3", "y:1234 ^5", "y:p=1 ^2?1", "y:1+2 ^2", "y:p=1?1 ^2");
    }

    private static void newCities() {
        edge(5, "The TAPE (empty then) is the CITY: how many STREETS");
        SmellMap x = new SmellMap();
        Check.put(x, "l.#;l..;s");
        due("text(0)", x.text(0), 3);
        due("bytes", x.count(5), 0);
        due("text(0) of an empty tape", x.text(0), -1);
        due("streets still", x.count(2), 3);
        Check.put(x, "l.....;l.....;l.....;l.....;s");
        due("text(0) of twenty", x.text(0), 20);
        Check.put(x, "l.;s");
        due("text(0) of one", x.text(0), 1);

        edge(5, "all that was of another one is gone: HOUR, WIND, RAIN, DULL, TRAIL, NOTED, ACTS, IMAGE, what was shut");
        x = Check.city("l...;l...;s;s;dn3");
        x.set(0, 2);
        x.set(1, 1);
        x.set(2, 77);
        x.set(3, 9);
        x.open(1, false);
        x.trail(0, 0);
        x.note(0, 0, 0, true);
        x.image();
        Check.put(x, "l.#;s;sc0");
        due("text(0)", x.text(0), 1);
        int[] want = {1, 2, 1, 2, 0, 0, 0, 0, 0, 1, 0, 0, 0};
        for (int what = 0; what < want.length; what++) {
            due("count(" + what + ")", x.count(what), want[what]);
        }
        due("source(1, 5)", x.source(1, 5), 1);
        due("back()", x.back(), -1);
        due("undo()", x.undo(), -1);
        due("wipe()", x.wipe(), false);
        due("thief(0)", x.thief(0), 1);
        due("where(0)", x.where(0), 1);
        due("street(10)", x.street(10), -1);

        edge(5, "all that was of another one is gone, even of one alike");
        x = Check.city("l..;s");
        x.set(2, 5);
        x.trail(1, 1);
        x.image();
        Check.put(x, "l..;s");
        due("text(0)", x.text(0), 2);
        due("the hour", x.count(6), 0);
        due("the trail", x.count(10), 0);
        due("back()", x.back(), -1);

        edge(5, "all that was of another one is gone: ITEMS, STREETS, FAR, even of the one ahead of the last");
        x = Check.city("l...;l...;l...;sk1r2c2f4u5p7;dn9");
        due("far(0, 2), the first", x.far(0, 2), 4);
        Check.put(x, "l.#;l..;sk2r1p2;dn8");
        due("text(0), the second", x.text(0), 3);
        due("far(0, 11), the second", x.far(0, 11), 4);
        due("far(0, 1), the second", x.far(0, 1), -1);
        Check.put(x, "l.#.;l...;s;sc2");
        due("text(0), the third", x.text(0), 5);
        due("far(0, 2), the third", x.far(0, 2), 8);
        due("far(0, 1), the third", x.far(0, 1), -1);
        due("far(0, 10), the third", x.far(0, 10), 2);
        due("street(20), the third", x.street(20), -1);
        due("dull, the third", x.count(9), 1);
        int[] usual = {0, 0, 0, 0, 5, 1, 1};
        for (int what = 0; what < 7; what++) {
            due("source(0, " + what + "), the third", x.source(0, what), usual[what]);
        }
        for (int n = 0; n < 4; n++) {
            Check.put(x, n % 2 == 0 ? "l.....;sk4" : "l.....;s");
            x.text(0);
            due("its kind", x.source(0, 0), n % 2 == 0 ? 4 : 0);
            due("its breath", x.breath(0), n % 2 == 0 ? 16 : 1);
        }

        edge(5, "a text with a FAULT, or one read for its FAULT alone, leaves nothing behind");
        Check.put(x, "l#####;l.....;sk3r1c1p9f1u2;dn7");
        due("fault(0)", x.fault(0), -1);
        Check.put(x, "l...;l.;sk3");
        due("fault(0)", x.fault(0), 11);
        due("streets", x.count(2), 5);
        due("source(0, 0)", x.source(0, 0), 0);
        due("far(0, 4)", x.far(0, 4), 8);
        Check.put(x, "l..;s");
        due("text(0)", x.text(0), 2);
        due("rows", x.count(0), 1);
        due("source(0, 3)", x.source(0, 3), 0);
        Check.put(x, "y:9;y:8");
        due("fault(1)", x.fault(1), -1);
        Check.put(x, "y:7*f+");
        due("fault(1)", x.fault(1), 6);
        Check.put(x, "y:4");
        due("text(1)", x.text(1), 0);
        x.law(0);
        due("its worth", x.smell(1, 0), 4);

        edge(5, "but LAWS, none holds");
        x = Check.city("l.;s");
        Check.law(x, "y:42");
        Check.law(x, "y:43");
        due("it holds", x.smell(0, 0), 43);
        Check.put(x, "l.;sp4");
        x.text(0);
        due("none holds", x.smell(0, 0), 12);
        due("laws", x.count(4), 2);
        due("law(0)", x.law(0), true);
        due("the first", x.smell(0, 0), 42);
        due("law(1)", x.law(1), true);
        due("the second", x.smell(0, 0), 43);
    }

    private static void newLaws() {
        edge(5, "a LAW: its number");
        SmellMap x = new SmellMap();
        for (int law = 0; law < 4; law++) {
            Check.put(x, "y:" + (law + 20));
            due("text(1)", x.text(1), law);
            due("bytes", x.count(5), 0);
            due("laws", x.count(4), law + 1);
        }
        Check.put(x, "l.;s");
        x.text(0);
        for (int law = 3; law >= 0; law--) {
            due("law(" + law + ")", x.law(law), true);
            due("its worth", x.smell(0, 0), law + 20);
        }

        edge(5, "NONE: there are four");
        Check.put(x, "y:77");
        due("text(1), a fifth", x.text(1), -1);
        due("bytes", x.count(5), 4);
        due("laws", x.count(4), 4);
        due("fault(1) is none", x.fault(1), -1);
        due("law(4)", x.law(4), false);
        due("the law that held", x.smell(0, 0), 20);
        Check.put(x, "l..;s");
        due("a city can still come", x.text(0), 2);
        Check.put(x, "y:77");
        due("text(1) behind another city", x.text(1), -1);

        edge(5, "a LAW that comes does not hold yet, and the one that holds goes on");
        x = Check.city("l.;s");
        Check.put(x, "y:33");
        due("text(1)", x.text(1), 0);
        due("none holds", x.smell(0, 0), 15);
        x.law(0);
        Check.put(x, "y:44");
        due("text(1)", x.text(1), 1);
        due("the first holds", x.smell(0, 0), 33);
        Check.put(x, "y:55+");
        due("text(1) with a fault", x.text(1), -1);
        due("fault(1)", x.fault(1), 5);
        due("the first holds still", x.smell(0, 0), 33);
        due("law(2)", x.law(2), false);
    }

    private static void refusedTexts() {
        edge(5, "NONE: a FAULT of a CITY");
        SmellMap x = Check.city("l..;l..;sp7;dn2");
        x.set(2, 9);
        x.trail(0, 1);
        for (String t : new String[] {"", "l.", "l.;s;x", "l.#;sc1", "l.;l..;s", "y:1", "l.;sk5"}) {
            Check.put(x, t);
            due("text(0) of \"" + t + "\"", x.text(0), -1);
            due("bytes", x.count(5), t.length());
            due("rows still", x.count(0), 2);
            due("streets still", x.count(2), 4);
            due("the hour still", x.count(6), 9);
            due("dull still", x.count(9), 2);
            due("the trail still", x.count(10), 1);
            due("acts still", x.count(12), 1);
            due("smell still", x.smell(0, 0), 21);
            due("far still", x.far(0, 11), 4);
        }
        edge(5, "NONE: a FAULT of a LAW");
        for (String t : new String[] {"", "y:", "y:1;", "l.;s", "y:p=1", "y:12345"}) {
            Check.put(x, t);
            due("text(1) of \"" + t + "\"", x.text(1), -1);
            due("bytes", x.count(5), t.length());
            due("laws", x.count(4), 0);
        }
        edge(5, "NONE: no such sort");
        for (int odd : new int[] {-1, 2, 3, Integer.MAX_VALUE, Integer.MIN_VALUE}) {
            Check.put(x, "l.;s");
            due("text(" + odd + ")", x.text(odd), -1);
            due("bytes", x.count(5), 4);
            Check.put(x, "y:1");
            due("text(" + odd + ")", x.text(odd), -1);
            due("bytes", x.count(5), 3);
        }
        due("rows still", x.count(0), 2);
        due("laws still", x.count(4), 0);
    }

    /** A law's worth for KIND 3, POWER 7 at FAR 4, within 0 .. 99. */
    private static void worth(String law, int want) {
        SmellMap x = Check.city("l...;sk3p7");
        Check.law(x, law);
        due(law, x.smell(2, 3), want);
    }

    private static void bounds() {
        edge(14, "Behind each sign numbers are within .. 1,000,000: +");
        worth("y:9999*100+9999-[9999*100+40]", 60);
        worth("y:9999*100+100-[9999*100+40]", 60);
        worth("y:9999*100+101-[9999*100+40]", 60);
        worth("y:9999*100+99-[9999*100+40]", 59);
        edge(14, "Behind each sign numbers are within -1,000,000 ..: -");
        worth("y:0-9999*100-9999+[9999*100+90]+50", 40);
        worth("y:0-9999*100-101+[9999*100+90]+50", 40);
        worth("y:0-9999*100-100+[9999*100+90]+50", 40);
        worth("y:0-9999*100-99+[9999*100+90]+50", 41);
        edge(14, "Behind each sign numbers are within .. 1,000,000: *");
        worth("y:9999*9999-[9999*100+50]", 50);
        worth("y:1000*1000-[9999*100+50]", 50);
        worth("y:[0-9999]*[0-9999]-[9999*100+50]", 50);
        worth("y:[9999*9999]*[9999*9999]-[9999*100+50]", 50);
        worth("y:999*1001-[9999*100+50]", 49);
        edge(14, "Behind each sign numbers are within -1,000,000 ..: *");
        worth("y:[0-9999]*9999+[9999*100+90]+60", 50);
        worth("y:[0-9999*9999]*[9999*9999]+[9999*100+90]+60", 50);
        worth("y:[0-999]*1001+[9999*100+90]+60", 51);
        edge(14, "Behind each sign, not at the end alone");
        worth("y:9999*9999/9999/2", 50);
        worth("y:9999*9999*9999/9999-50", 50);
        worth("y:9999*9999-9999*9999+3", 3);
        worth("y:[9999*9999+9999]-[9999*100+99]", 1);
        worth("y:9999*9999=1000*1000?8;y:9", 8);
        worth("y:9999*101+9999*101-[9999*100]", 99);
    }

    private static void quotients() {
        edge(14, "/ cuts towards 0");
        worth("y:7/2", 3);
        worth("y:8/2", 4);
        worth("y:1/2", 0);
        worth("y:[0-7]/2+50", 47);
        worth("y:7/[0-2]+50", 47);
        worth("y:[0-7]/[0-2]", 3);
        worth("y:[0-1]/2+50", 50);
        worth("y:[0-1]/9999+50", 50);
        edge(14, "/ by 0 gives 0");
        worth("y:5/0+9", 9);
        worth("y:0/0+9", 9);
        worth("y:9-5/[p-p]", 9);
        worth("y:[0-5]/[f-4]+9", 9);
        worth("y:5/0=0?8;y:9", 8);
        worth("y:5/0*7+9", 9);
    }

    private static void worths() {
        edge(14, "WORTH: the SUM of the first CLAUSE whose CONDITION holds");
        worth("y:p=7?11;y:p=7?22;y:33", 11);
        worth("y:p=6?11;y:p=7?22;y:33", 22);
        worth("y:p=6?11;y:p=5?22;y:33", 33);
        worth("y:p=6?11;y:p=5?22;y:p=7?33;y:p=7?44", 33);
        edge(14, "(or has none)");
        worth("y:5;y:6", 5);
        worth("y:5;y:p=7?6", 5);
        worth("y:p=6?4;y:5;y:6", 5);
        edge(14, "WORTH: 0 without");
        worth("y:p=6?9", 0);
        worth("y:p=6?9;y:p=5?8", 0);
        edge(14, "TERMS from the left, * and / ahead of + and -");
        worth("y:20-5-3", 12);
        worth("y:20-5+3", 18);
        worth("y:40/4/2", 5);
        worth("y:40/4*2", 20);
        worth("y:5*7/2", 17);
        worth("y:2+3*4", 14);
        worth("y:20-6/2", 17);
        worth("y:[2+3]*4", 20);
        worth("y:20-[5-3]", 18);
        worth("y:40/[4/2]", 20);
        edge(14, "a number (1 to 4 digits), with zeros ahead");
        worth("y:0012", 12);
        worth("y:0000", 0);
        worth("y:9999-9900", 99);
        edge(14, "letters: p POWER, f FAR, h the hour of the DAY, k KIND, w WIND");
        worth("y:p", 7);
        worth("y:f", 4);
        worth("y:k", 3);
        worth("y:h", 0);
        worth("y:w", 0);
        SmellMap x = Check.city("l...;sk3p7");
        Check.law(x, "y:h");
        int[][] hours = {{1, 1}, {23, 23}, {24, 0}, {25, 1}, {47, 23}, {48, 0}, {999, 15}};
        for (int[] h : hours) {
            x.set(2, h[0]);
            due("h at " + h[0], x.smell(2, 3), h[1]);
        }
        Check.law(x, "y:10*w+f");
        int[] winds = {4, 14, 22, 34, 46};
        for (int wind = 4; wind >= 0; wind--) {
            x.set(0, wind);
            due("10*w+f by wind " + wind, x.smell(2, 3), winds[wind]);
        }
        edge(14, "six of ( [ ! within one another, with all that can wait ahead of each");
        worth("y:0=1|1=1&2<1+1*[1+1*[1+1*[1+1*[1+1*[1+1*[1+1*3]]]]]]?50;y:60", 50);
        worth("y:0=1|1=1&9<1+1*[1+1*[1+1*[1+1*[1+1*[1+1*[1+1*3]]]]]]?50;y:60", 50);
        worth("y:0=1|1=1&10<1+1*[1+1*[1+1*[1+1*[1+1*[1+1*[1+1*3]]]]]]?50;y:60", 60);
        worth("y:0=1|1=1&(0=1|1=1&(0=1|1=1&(0=1|1=1&(0=1|1=1&(0=1|1=1&8<1+2*4)))))?50;y:60", 50);
        worth("y:0=1|1=1&(0=1|1=1&(0=1|1=1&(0=1|1=1&(0=1|1=1&(0=1|1=1&9<1+2*4)))))?50;y:60", 60);
        worth("y:0=1|1=1&(0=1|1=1&(0=1|1=1&(0=1|1=1&[1+2*[3+4*5]]=47)))?50;y:60", 50);
        worth("y:1+1*[2+1*[3+1*[4+1*[5+1*[6+1*[7+8*9]]]]]]", 99);
        worth("y:1+1*[2+1*[3+1*[4+1*[5+1*[6+1*[7-8*2]]]]]]", 12);
    }

    private static void truths() {
        edge(14, "= alike alone, < less alone, > more alone");
        worth("y:p=6?1;y:p=8?2;y:p=7?3", 3);
        worth("y:p<6?1;y:p<7?2;y:p<8?3", 3);
        worth("y:p>8?1;y:p>7?2;y:p>6?3", 3);
        worth("y:0-1<0?1;y:2", 1);
        worth("y:0-1>0?1;y:2", 2);
        edge(14, "TRUTHS with |: one is enough; UNITS with &: all");
        worth("y:p=7|p=1?1;y:2", 1);
        worth("y:p=1|p=7?1;y:2", 1);
        worth("y:p=1|p=2?1;y:2", 2);
        worth("y:p=7|f=4?1;y:2", 1);
        worth("y:p=7&f=4?1;y:2", 1);
        worth("y:p=7&f=5?1;y:2", 2);
        worth("y:p>6&f=4?1;y:2", 1);
        worth("y:p=7&f>3?1;y:2", 1);
        worth("y:p<8&f=4?1;y:2", 1);
        worth("y:p=7&f<5?1;y:2", 1);
        worth("y:!p>7&f>3?1;y:2", 1);
        worth("y:!p>6|!f>4?1;y:2", 1);
        worth("y:!p>6|!f>3?1;y:2", 2);
        worth("y:p=6&f=4?1;y:2", 2);
        worth("y:p=1|p=2|p=7?1;y:2", 1);
        worth("y:p=7&f=4&k=2?1;y:2", 2);
        edge(14, "& ahead of |");
        worth("y:p=7|p=1&p=2?1;y:2", 1);
        worth("y:p=1&p=2|p=7?1;y:2", 1);
        worth("y:(p=7|p=1)&p=2?1;y:2", 2);
        worth("y:p=1&(p=2|p=7)?1;y:2", 2);
        edge(14, "! UNIT: of one UNIT alone");
        worth("y:!p=7?1;y:2", 2);
        worth("y:!p=6?1;y:2", 1);
        worth("y:!!p=7?1;y:2", 1);
        worth("y:!!!p=7?1;y:2", 2);
        worth("y:!p=7&p=1?1;y:2", 2);
        worth("y:!p=1|p=7?1;y:2", 1);
        worth("y:!(p=7&p=1)?1;y:2", 1);
        worth("y:!(p=1|p=7)?1;y:2", 2);
        worth("y:!p<7&!p>7?1;y:2", 1);
        worth("y:!!!!!!p=7?1;y:2", 1);
    }
}
