/** What the document says of sources, weather and acts: each sentence that names a boundary, by itself. */
public final class EdgeTests {
    private static final int MAX = Integer.MAX_VALUE;
    private static final int MIN = Integer.MIN_VALUE;
    /** Streets 00 01 02 10 12, a wall 11; all streets are the bits 47. */
    private static final String TOWN = "l...;l.#.;sp3;sk1r1c2p2";
    /** Cells that are none in the town: beside its columns, its rows, and below 0. */
    private static final int[] NO_CELLS = {3, 4, 5, 9, 13, 19, 20, 22, 30, 100, -1, -9, -10, -11, MAX, MIN};

    public static void main(String[] args) {
        made();
        sources();
        hoursOfSources();
        streets();
        laws();
        sets();
        opens();
        hours();
        undos();
        acts();
        farness();
        smells();
        whiffs();
        breaths();
        strongest();
        noStreetsOfAFullCity();
        images();
        backs();
        counts();
        Check.close("EdgeTests");
    }

    private static void edge(int promise, String sentence) {
        Check.edge(promise, sentence);
    }

    private static void due(String what, long got, long want) {
        Check.due(what, got, want);
    }

    private static void due(String what, boolean got, boolean want) {
        Check.due(what, got, want);
    }

    /** No city, but laws, and bytes on the tape. */
    private static SmellMap nowhere() {
        SmellMap x = new SmellMap();
        Check.put(x, "y:7");
        x.text(1);
        Check.put(x, "l.;s");
        return x;
    }

    private static void made() {
        edge(1, "No CITY");
        for (int what = 0; what <= 12; what++) {
            due("count(" + what + ")", new SmellMap().count(what), 0);
        }
        due("street(0)", new SmellMap().street(0), -1);
        due("breath(0)", new SmellMap().breath(0), -1);
        due("silent()", new SmellMap().silent(), -1);
        due("fault(0) of no bytes", new SmellMap().fault(0), 0);
        due("one object is not another", Check.city(TOWN).count(2) - new SmellMap().count(2), 5);
    }

    private static void sources() {
        edge(6, "0 KIND, 1 its CELL, 2 FROM, 3 UNTIL, 4 POWER, 5 whether it is OPEN, 6 whether it SMELLS now");
        SmellMap x = Check.city("l.....;l.....;l.....;l.....;sk4r3c4f23u22p9;sp1u1r1;s");
        int[][] want = {{4, 34, 23, 22, 9, 1, 1}, {0, 10, 0, 1, 1, 1, 1}, {0, 0, 0, 0, 5, 1, 1}};
        for (int source = 0; source < 3; source++) {
            for (int what = 0; what <= 6; what++) {
                due("source(" + source + ", " + what + ")", x.source(source, what), want[source][what]);
            }
        }

        edge(6, "0 without: KIND, ROW, COLUMN, FROM, UNTIL; POWER 5");
        SmellMap y = Check.city("l..;l..;sr1c1k1f1u2p1;s;sr1;sc1;sf3;su4");
        int[][] some = {{1, 11, 1, 2, 1}, {0, 0, 0, 0, 5}, {0, 10, 0, 0, 5}, {0, 1, 0, 0, 5}, {0, 0, 3, 0, 5}, {0, 0, 0, 4, 5}};
        for (int source = 0; source < 6; source++) {
            for (int what = 0; what <= 4; what++) {
                due("source(" + source + ", " + what + ")", y.source(source, what), some[source][what]);
            }
        }

        edge(6, "whether it is OPEN (1, 0)");
        due("at first", x.source(1, 5), 1);
        x.open(1, false);
        due("shut", x.source(1, 5), 0);
        due("the one ahead", x.source(0, 5), 1);
        due("the next", x.source(2, 5), 1);
        x.open(1, true);
        due("opened", x.source(1, 5), 1);
        x.set(2, 12);
        due("OPEN, if it is not its hour too", x.source(1, 5), 1);

        edge(6, "NoSuchElementException: no such SOURCE");
        SmellMap six = Check.city("l.;s;s;s;s;s;s");
        due("the sixth", six.source(5, 4), 5);
        for (int odd : new int[] {6, 7, 31, 32, -1, MAX, MIN}) {
            Check.sourceThrows(six, odd, 0);
            Check.sourceThrows(x, odd, 6);
        }
        Check.sourceThrows(x, 3, 0);

        edge(6, "NoSuchElementException: no such what");
        for (int odd : new int[] {7, 8, -1, MAX, MIN}) {
            Check.sourceThrows(x, 0, odd);
            Check.sourceThrows(x, 2, odd);
        }

        edge(6, "NoSuchElementException: without a CITY there is none");
        for (int what = 0; what <= 6; what++) {
            Check.sourceThrows(nowhere(), 0, what);
        }
    }

    /** Whether the first source smells in the hours from 0 on, told as signs 1 and 0. */
    private static void smellsAt(String city, String hours) {
        SmellMap x = Check.city(city);
        for (int hour = 0; hour < hours.length(); hour++) {
            x.set(2, hour);
            due("source(0, 6) of " + city + " at " + hour, x.source(0, 6), hours.charAt(hour) - '0');
            due("it is smelled, of " + city + " at " + hour, x.breath(0), hours.charAt(hour) - '0');
        }
    }

    private static void hoursOfSources() {
        edge(6, "FROM which hour, UNTIL which (that one not)");
        smellsAt("l.;sf6u8", "000000110000000000000000000000110000000000000000");
        smellsAt("l.;sf22u23", "0000000000000000000000100");
        smellsAt("l.;su1", "1000000000000000000000001");
        smellsAt("l.;su23", "1111111111111111111111101");
        smellsAt("l.;sf1u2", "0100000000000000000000000");
        edge(6, "through midnight, if UNTIL is less than FROM");
        smellsAt("l.;sf22u2", "110000000000000000000011110000000000000000000011");
        smellsAt("l.;sf23", "0000000000000000000000010");
        smellsAt("l.;sf1", "0111111111111111111111110");
        smellsAt("l.;sf23u22", "1111111111111111111111011");
        smellsAt("l.;sf2u1", "1011111111111111111111111");
        edge(6, "FROM and UNTIL alike: all day");
        for (String hours : new String[] {"", "f0", "u0", "f0u0", "f9u9", "f23u23"}) {
            smellsAt("l.;s" + hours, "1111111111111111111111111");
        }
        edge(6, "the HOUR of a DAY of 24");
        SmellMap x = Check.city("l.;sf15u16;sf14u15");
        int[][] hours = {{15, 1, 0}, {14, 0, 1}, {39, 1, 0}, {998, 0, 1}, {999, 1, 0}, {0, 0, 0}, {24, 0, 0}};
        for (int[] h : hours) {
            x.set(2, h[0]);
            due("source(0, 6) at " + h[0], x.source(0, 6), h[1]);
            due("source(1, 6) at " + h[0], x.source(1, 6), h[2]);
        }
        edge(6, "SMELLS, if it is OPEN");
        x = Check.city("l.;s");
        due("open", x.source(0, 6), 1);
        x.open(0, false);
        due("shut", x.source(0, 6), 0);
    }

    private static void streets() {
        edge(7, "a STREET (1), a WALL (0)");
        SmellMap x = Check.city("l.#.#.;l#.#.#;l.....;l#####;s");
        String ground = "1010101010" + "1111100000";
        for (int place = 0; place < 20; place++) {
            int cell = place / 5 * 10 + place % 5;
            due("street(" + cell + ")", x.street(cell), ground.charAt(place) - '0');
        }
        edge(7, "NONE: no such one: beside the last COLUMN");
        for (int row = 0; row < 4; row++) {
            for (int column = 5; column < 10; column++) {
                due("street", x.street(10 * row + column), -1);
            }
        }
        SmellMap town = Check.city(TOWN);
        for (int cell : new int[] {3, 4, 9, 13, 14, 19}) {
            due("street(" + cell + ") of three columns", town.street(cell), -1);
        }
        edge(7, "NONE: no such one: below the last ROW");
        for (int cell : new int[] {40, 44, 50, 100, 134, 1000, MAX}) {
            due("street(" + cell + ")", x.street(cell), -1);
        }
        for (int cell : new int[] {20, 21, 22, 30}) {
            due("street(" + cell + ") of two rows", town.street(cell), -1);
        }
        edge(7, "NONE: no such one: below 0");
        for (int cell : new int[] {-1, -5, -9, -10, -11, -100, MIN}) {
            due("street(" + cell + ")", x.street(cell), -1);
        }
        edge(7, "NONE: without a CITY");
        due("street(0)", nowhere().street(0), -1);
    }

    private static void laws() {
        edge(8, "The LAW that holds");
        SmellMap x = Check.city("l.;s");
        for (int law = 0; law < 4; law++) {
            Check.put(x, "y:3" + law);
            x.text(1);
        }
        for (int law : new int[] {0, 3, 1, 2}) {
            due("law(" + law + ")", x.law(law), true);
            due("its worth", x.smell(0, 0), 30 + law);
        }
        due("law(2) again", x.law(2), true);
        edge(8, "(NONE: none)");
        due("law(-1)", x.law(-1), true);
        due("three times POWER", x.smell(0, 0), 15);
        due("law(-1) again", x.law(-1), true);
        due("law(-1) without laws", Check.city("l.;s").law(-1), true);
        edge(8, "False: no such one");
        x.law(1);
        for (int odd : new int[] {4, 5, -2, -3, MAX, MIN}) {
            due("law(" + odd + ")", x.law(odd), false);
            due("the one that held", x.smell(0, 0), 31);
        }
        SmellMap one = Check.city("l.;s");
        due("law(0) without laws", one.law(0), false);
        Check.put(one, "y:7");
        one.text(1);
        due("law(1) of one", one.law(1), false);
        due("law(0) of one", one.law(0), true);
        edge(8, "False: no CITY");
        due("law(0)", nowhere().law(0), false);
        due("law(-1)", nowhere().law(-1), false);
        edge(8, "none at first, a LAW that was refused without a CITY neither");
        SmellMap y = nowhere();
        y.law(0);
        due("text(0)", y.text(0), 1);
        due("three times POWER", y.smell(0, 0), 15);
    }

    private static void sets() {
        int[] count = {7, 8, 6, 9};
        String[] name = {"WIND (what 0; 0 .. 4)", "RAIN (1; 0, 1)", "the HOUR (2; 0 .. 999)", "DULL (3; 0 .. 50)"};
        int[] most = {4, 1, 999, 50};
        int[] first = {0, 0, 0, 1};
        for (int what = 0; what < 4; what++) {
            edge(9, name[what]);
            SmellMap x = Check.city(TOWN);
            due("at first", x.count(count[what]), first[what]);
            for (int v = most[what]; v >= 0; v--) {
                due("set(" + what + ", " + v + ")", x.set(what, v), true);
                due("count of it", x.count(count[what]), v);
            }
            edge(9, name[what] + ": False: out of bounds");
            x.set(what, 1);
            for (int odd : new int[] {most[what] + 1, -1, -2, 1000, 1024, MAX, MIN}) {
                due("set(" + what + ", " + odd + ")", x.set(what, odd), false);
                due("count of it", x.count(count[what]), 1);
            }
            edge(9, name[what] + ": False: it is so");
            for (int v = 0; v <= most[what]; v += what == 2 ? 37 : 1) {
                x.set(what, v);
                int acts = x.count(12);
                due("set(" + what + ", " + v + ") again", x.set(what, v), false);
                due("it is no act", x.count(12), acts);
            }
            edge(9, name[what] + ": False: no CITY");
            SmellMap y = nowhere();
            for (int v = 0; v <= most[what]; v += what == 2 ? 333 : 1) {
                due("set(" + what + ", " + v + ")", y.set(what, v), false);
            }
            due("count of it", y.count(count[what]), 0);
            edge(9, name[what] + ": the others stay");
            SmellMap z = Check.city(TOWN);
            z.set(what, most[what]);
            for (int other = 0; other < 4; other++) {
                due("count of " + other, z.count(count[other]), other == what ? most[what] : first[other]);
            }
        }
        edge(9, "False: out of bounds: no such what");
        SmellMap x = Check.city(TOWN);
        for (int odd : new int[] {-1, 4, 5, MAX, MIN}) {
            for (int v = 0; v <= 3; v++) {
                due("set(" + odd + ", " + v + ")", x.set(odd, v), false);
            }
        }
        due("acts", x.count(12), 0);
        due("source(0, 5)", x.source(0, 5), 1);
        due("source(1, 5)", x.source(1, 5), 1);
    }

    private static void opens() {
        edge(10, "A SOURCE is opened, shut");
        SmellMap x = Check.city("l.;s;sk1;sk2;sk3;sk4;sp9");
        for (int source = 0; source < 6; source++) {
            due("open(" + source + ", false)", x.open(source, false), true);
            due("source(" + source + ", 5)", x.source(source, 5), 0);
        }
        due("none is smelled", x.breath(0), 0);
        for (int source = 5; source >= 0; source--) {
            due("open(" + source + ", true)", x.open(source, true), true);
            due("source(" + source + ", 5)", x.source(source, 5), 1);
        }
        due("all are smelled", x.breath(0), 31);
        edge(10, "False: it is so");
        for (int source = 0; source < 6; source++) {
            due("open(" + source + ", true), it is", x.open(source, true), false);
        }
        x.open(2, false);
        int acts = x.count(12);
        due("open(2, false), it is shut", x.open(2, false), false);
        due("open(3, true), it is", x.open(3, true), false);
        due("it is no act", x.count(12), acts);
        edge(10, "False: no such one");
        for (int odd : new int[] {6, 7, 8, 31, 32, 64, -1, -32, MAX, MIN}) {
            due("open(" + odd + ", true)", x.open(odd, true), false);
            due("open(" + odd + ", false)", x.open(odd, false), false);
        }
        SmellMap two = Check.city(TOWN);
        due("open(2, false) of two", two.open(2, false), false);
        due("open(2, true) of two", two.open(2, true), false);
        due("acts", two.count(12), 0);
        edge(10, "False: without a CITY there is none");
        due("open(0, false)", nowhere().open(0, false), false);
        due("open(0, true)", nowhere().open(0, true), false);
    }

    /** Behind n hours by a seed: each hour's wind and rain, reckoned apart from the class. */
    private static void drawn(long seed, String winds, String rains) {
        for (int n = 1; n <= winds.length(); n++) {
            SmellMap x = Check.city(TOWN);
            due("hours(" + n + ", " + seed + ")", x.hours(n, seed), n);
            due("wind behind " + n + " by " + seed, x.count(7), winds.charAt(n - 1) - '0');
            due("rain behind " + n + " by " + seed, x.count(8), rains.charAt(n - 1) - '0');
        }
    }

    private static void hours() {
        edge(11, "in each the HOUR is one more, WIND a draw of 5, RAIN falls, if a draw of 4 is 0");
        drawn(0, "220443200142311204441212", "110000000000000110000010");
        drawn(1, "414043240221441234110013", "000000110000111000001100");
        drawn(7, "330440240114303203420304", "000100100000101000010011");
        drawn(42, "434414230444012431324012", "001000000110000011000000");
        edge(11, "(64 bits, going round), without sign");
        drawn(-1, "324003031311200124224213", "000010011010000000100000");
        drawn(Long.MAX_VALUE, "430144442420314030330102", "000010011010000000100000");
        drawn(Long.MIN_VALUE, "134334111003200110000123", "110000000000000110000010");
        edge(11, "a seed is begun anew with each call");
        SmellMap x = Check.city(TOWN);
        x.hours(1, 7);
        due("hours(1, 7) again", x.hours(1, 7), 2);
        due("wind", x.count(7), 3);
        due("rain", x.count(8), 0);
        edge(11, "RAIN ends, if the draw is not 0");
        x = Check.city(TOWN);
        x.set(1, 1);
        x.hours(1, 7);
        due("rain", x.count(8), 0);
        edge(11, "HOURS (1 .. 24)");
        x = Check.city(TOWN);
        due("hours(1, 5)", x.hours(1, 5), 1);
        due("hours(24, 5)", x.hours(24, 5), 25);
        edge(11, "NONE: out of bounds");
        int wind = x.count(7);
        int rain = x.count(8);
        for (int odd : new int[] {0, 25, 26, -1, -24, MAX, MIN}) {
            due("hours(" + odd + ", 3)", x.hours(odd, 3), -1);
        }
        due("the hour", x.count(6), 25);
        due("the wind", x.count(7), wind);
        due("rain", x.count(8), rain);
        due("acts", x.count(12), 25);
        edge(11, "NONE: the HOUR would be above 999");
        x.set(2, 975);
        due("hours(24, 5) at 975", x.hours(24, 5), 999);
        due("hours(1, 5) at 999", x.hours(1, 5), -1);
        x.set(2, 998);
        due("hours(2, 5) at 998", x.hours(2, 5), -1);
        due("the hour still", x.count(6), 998);
        due("hours(1, 5) at 998", x.hours(1, 5), 999);
        x.set(2, 976);
        int acts = x.count(12);
        wind = x.count(7);
        due("hours(24, 5) at 976", x.hours(24, 5), -1);
        due("the hour still", x.count(6), 976);
        due("the wind still", x.count(7), wind);
        due("acts still", x.count(12), acts);
        due("hours(23, 5) at 976", x.hours(23, 5), 999);
        edge(11, "NONE: no CITY");
        x = nowhere();
        due("hours(1, 5)", x.hours(1, 5), -1);
        due("hours(24, 5)", x.hours(24, 5), -1);
        due("the hour", x.count(6), 0);
        edge(11, "the HOUR goes on above a DAY");
        x = Check.city(TOWN);
        x.set(2, 23);
        due("hours(1, 5) at 23", x.hours(1, 5), 24);
        due("hours(24, 5) at 24", x.hours(24, 5), 48);
    }

    private static void undos() {
        edge(12, "The latest ACT is UNDONE: how many still can be: WIND, RAIN, the HOUR, DULL");
        SmellMap x = Check.city(TOWN);
        x.set(0, 3);
        x.set(0, 4);
        x.set(1, 1);
        x.set(2, 500);
        x.set(3, 0);
        int[][] want = {{4, 1, 500, 1}, {4, 1, 0, 1}, {4, 0, 0, 1}, {3, 0, 0, 1}, {0, 0, 0, 1}};
        for (int n = 0; n < 5; n++) {
            due("undo()", x.undo(), 4 - n);
            due("the wind", x.count(7), want[n][0]);
            due("rain", x.count(8), want[n][1]);
            due("the hour", x.count(6), want[n][2]);
            due("dull", x.count(9), want[n][3]);
        }
        edge(12, "SOURCES opened and shut");
        x.open(0, false);
        x.open(1, false);
        x.open(0, true);
        due("undo() of open(0, true)", x.undo(), 2);
        due("source(0, 5)", x.source(0, 5), 0);
        due("source(1, 5)", x.source(1, 5), 0);
        due("undo() of open(1, false)", x.undo(), 1);
        due("source(1, 5)", x.source(1, 5), 1);
        due("undo() of open(0, false)", x.undo(), 0);
        due("source(0, 5)", x.source(0, 5), 1);
        edge(12, "HOURS (each one)");
        x.set(1, 1);
        x.hours(4, 7);
        due("acts", x.count(12), 5);
        int[][] each = {{3, 0, 0}, {2, 3, 0}, {1, 3, 0}, {0, 0, 1}};
        for (int n = 0; n < 4; n++) {
            due("undo() of an hour", x.undo(), 4 - n);
            due("the hour", x.count(6), each[n][0]);
            due("the wind", x.count(7), each[n][1]);
            due("rain", x.count(8), each[n][2]);
        }
        due("undo() of rain", x.undo(), 0);
        edge(12, "NONE: none");
        due("undo() of none", x.undo(), -1);
        due("undo() of none again", x.undo(), -1);
        due("of a new city", Check.city(TOWN).undo(), -1);
        due("without a city", nowhere().undo(), -1);
    }

    private static void acts() {
        edge(12, "the latest (40) can be UNDONE one by one");
        SmellMap x = Check.city(TOWN);
        for (int n = 1; n <= 60; n++) {
            due("set(2, " + n + ")", x.set(2, n), true);
            due("acts", x.count(12), Math.min(n, 40));
        }
        for (int n = 39; n >= 0; n--) {
            due("undo()", x.undo(), n);
            due("the hour", x.count(6), 20 + n);
        }
        due("undo(), no forty-first", x.undo(), -1);
        due("the hour", x.count(6), 20);
        for (int n = 1; n <= 40; n++) {
            x.set(2, n);
        }
        x.undo();
        due("one more behind one undone", x.set(3, 9), true);
        due("acts, forty again", x.count(12), 40);
        edge(12, "the latest (40), of HOURS, too");
        x = Check.city(TOWN);
        x.set(3, 7);
        x.hours(24, 1);
        due("acts", x.count(12), 25);
        x.hours(24, 1);
        due("acts, forty", x.count(12), 40);
        for (int n = 39; n >= 0; n--) {
            due("undo()", x.undo(), n);
        }
        due("the hour", x.count(6), 8);
        due("the wind of that hour", x.count(7), 4);
        due("rain of that hour", x.count(8), 1);
        due("dull still", x.count(9), 7);
        due("undo()", x.undo(), -1);
        edge(12, "what is no ACT can't be UNDONE");
        x = Check.city(TOWN);
        x.trail(1, 1);
        x.note(1, 0, 1, true);
        x.image();
        Check.law(x, "y:50");
        x.wipe();
        x.where(0);
        due("acts", x.count(12), 0);
        due("undo()", x.undo(), -1);
        due("the law holds", x.smell(0, 0), 50);
        due("it is noted", x.count(11), 1);
        edge(12, "what is UNDONE is no ACT: it can be done again");
        x.set(0, 2);
        x.undo();
        due("set(0, 2) again", x.set(0, 2), true);
        due("acts", x.count(12), 1);
        due("undo()", x.undo(), 0);
    }

    private static void farness() {
        edge(13, "each STEP 2");
        SmellMap x = Check.city("l.....;l.....;s");
        for (int cell = 0; cell < 5; cell++) {
            due("far(0, " + cell + ")", x.far(0, cell), 2 * cell);
            due("far(" + cell + ", 10)", x.far(cell, 10), 2 * cell + 2);
        }
        edge(13, "from a STREET to itself 0");
        for (int wind = 0; wind <= 4; wind++) {
            x.set(0, wind);
            due("far(13, 13)", x.far(13, 13), 0);
        }
        edge(13, "with a WIND one to its side 1, one against it 3: above (1), right (2), below (3), left (4)");
        SmellMap square = Check.city("l..;l..;s");
        int[][] steps = {{10, 0}, {0, 1}, {0, 10}, {1, 0}};
        for (int wind = 4; wind >= 0; wind--) {
            square.set(0, wind);
            for (int side = 1; side <= 4; side++) {
                int want = wind == 0 ? 2 : side == wind ? 1 : Math.abs(side - wind) == 2 ? 3 : 2;
                due("a step to side " + side + " by wind " + wind, square.far(steps[side - 1][0], steps[side - 1][1]), want);
            }
        }
        edge(13, "the least of all ways");
        SmellMap ring = Check.city("l....;l.##.;l....;s");
        int[][] ways = {{0, 23, 10}, {1, 20, 6}, {2, 20, 8}, {2, 23, 6}, {1, 21, 8}, {2, 22, 8}, {10, 13, 10}};
        for (int[] w : ways) {
            due("far(" + w[0] + ", " + w[1] + ")", ring.far(w[0], w[1]), w[2]);
            due("far(" + w[1] + ", " + w[0] + ")", ring.far(w[1], w[0]), w[2]);
        }
        SmellMap winding = Check.city("l.....;l####.;l.....;l.####;s");
        due("far round", winding.far(0, 30), 22);
        winding.set(0, 3);
        due("far round, by the wind", winding.far(0, 30), 19);
        due("far round, against it", winding.far(30, 0), 25);
        edge(13, "no WALLS, and no way over the last COLUMN or ROW");
        x.set(0, 0);
        due("far(4, 10)", x.far(4, 10), 10);
        due("far(10, 4)", x.far(10, 4), 10);
        SmellMap edges = Check.city("l.#.;l.#.;l.#.;s");
        due("far(2, 10)", edges.far(2, 10), -1);
        due("far(0, 22)", edges.far(0, 22), -1);
        due("far(0, 20)", edges.far(0, 20), 4);
        edge(13, "NONE: never");
        SmellMap corners = Check.city("l.#;l#.;s");
        for (int wind = 4; wind >= 0; wind--) {
            corners.set(0, wind);
            due("far(0, 11) by wind " + wind, corners.far(0, 11), -1);
            due("far(11, 0) by wind " + wind, corners.far(11, 0), -1);
        }
        edge(13, "NONE: no STREETS");
        SmellMap town = Check.city(TOWN);
        due("to a WALL", town.far(0, 11), -1);
        due("from a WALL", town.far(11, 0), -1);
        due("from a WALL to itself", town.far(11, 11), -1);
        for (int cell : NO_CELLS) {
            due("far(0, " + cell + ")", town.far(0, cell), -1);
            due("far(" + cell + ", 0)", town.far(cell, 0), -1);
            due("far(" + cell + ", " + cell + ")", town.far(cell, cell), -1);
        }
        due("without a CITY", nowhere().far(0, 0), -1);
        edge(13, "FAR by the WIND that is");
        town.set(0, 2);
        due("by wind 2", town.far(0, 2), 2);
        town.set(0, 4);
        due("by wind 4", town.far(0, 2), 6);
        town.undo();
        due("by wind 2 again", town.far(0, 2), 2);
        town.unlike(1, 3);
        due("by wind 2 still", town.far(0, 2), 2);
    }

    private static void smells() {
        edge(14, "the greatest of its WHIFFS");
        SmellMap x = Check.city("l...;sp2;sc2p4;sk4c1p9;sp1");
        int[] zero = {8, 10, 12};
        int[] four = {25, 27, 25};
        for (int cell = 0; cell < 3; cell++) {
            due("smell(" + cell + ", 0)", x.smell(cell, 0), zero[cell]);
            due("smell(" + cell + ", 4)", x.smell(cell, 4), four[cell]);
        }
        x.open(1, false);
        due("smell(0, 0) by the first", x.smell(0, 0), 6);
        x.open(0, false);
        due("smell(0, 0) by the last", x.smell(0, 0), 3);
        edge(14, "(0 without)");
        for (int kind = 1; kind <= 3; kind++) {
            due("smell(0, " + kind + ")", x.smell(0, kind), 0);
        }
        x.open(2, false);
        due("smell(0, 4), shut", x.smell(0, 4), 0);
        edge(14, "NONE: no such KIND (0 .. 4)");
        for (int odd : new int[] {5, 6, -1, 31, MAX, MIN}) {
            due("smell(0, " + odd + ")", x.smell(0, odd), -1);
        }
        edge(14, "NONE: no STREET");
        SmellMap town = Check.city(TOWN);
        due("a WALL", town.smell(11, 0), -1);
        for (int cell : NO_CELLS) {
            due("smell(" + cell + ", 0)", town.smell(cell, 0), -1);
        }
        due("without a CITY", nowhere().smell(0, 0), -1);
        edge(14, "by the law for any CELL: no STREET stays NONE");
        Check.law(town, "y:50");
        due("a WALL", town.smell(11, 0), -1);
        due("smell(3, 0)", town.smell(3, 0), -1);
    }

    private static void lawful(String law, int dry, int wet) {
        SmellMap x = Check.city("l.;s");
        Check.law(x, law);
        due(law, x.smell(0, 0), dry);
        x.set(1, 1);
        due(law + " in rain", x.smell(0, 0), wet);
    }

    private static void whiffs() {
        edge(14, "(none at first: three times POWER less FAR)");
        for (int power = 1; power <= 9; power++) {
            SmellMap x = Check.city("l.....;sp" + power);
            for (int cell = 0; cell < 5; cell++) {
                due("power " + power + " at " + cell, x.smell(cell, 0), Math.max(0, 3 * power - 2 * cell));
            }
        }
        edge(14, "held within 0 .. 99");
        lawful("y:98", 98, 49);
        lawful("y:99", 99, 49);
        lawful("y:100", 99, 49);
        lawful("y:9999", 99, 49);
        lawful("y:9999*9999", 99, 49);
        lawful("y:1", 1, 0);
        lawful("y:0", 0, 0);
        lawful("y:0-1", 0, 0);
        lawful("y:0-3", 0, 0);
        lawful("y:0-9999*9999", 0, 0);
        edge(14, "in RAIN half of that, cut");
        lawful("y:2", 2, 1);
        lawful("y:3", 3, 1);
        lawful("y:50", 50, 25);
        lawful("y:51", 51, 25);
        SmellMap x = Check.city("l..;sp9");
        x.set(1, 1);
        due("half of 27", x.smell(0, 0), 13);
        due("half of 25", x.smell(1, 0), 12);
        x.set(1, 0);
        due("RAIN has ended", x.smell(0, 0), 27);
        edge(14, "(0, where it never comes)");
        SmellMap apart = Check.city("l.#.;s");
        due("by none", apart.smell(2, 0), 0);
        Check.law(apart, "y:50");
        due("by a law, where it comes", apart.smell(0, 0), 50);
        due("by a law", apart.smell(2, 0), 0);
        Check.law(apart, "y:50-f");
        due("by a law of f", apart.smell(2, 0), 0);
        apart.set(1, 1);
        due("by a law, in rain", apart.smell(2, 0), 0);
        due("breath", apart.breath(2), 0);
        edge(14, "FAR from the SOURCE to the CELL");
        SmellMap wind = Check.city("l...;sc1p3");
        wind.set(0, 2);
        due("to the side of the wind", wind.smell(2, 0), 8);
        due("against it", wind.smell(0, 0), 6);
        wind.set(0, 4);
        due("against it then", wind.smell(2, 0), 6);
        due("to its side then", wind.smell(0, 0), 8);
        wind.set(0, 1);
        due("beside it", wind.smell(2, 0), 7);
        edge(14, "the law by each SOURCE's own letters");
        SmellMap two = Check.city("l...;sp3;sk1c2p2");
        Check.law(two, "y:10*p+f+k");
        due("the first one", two.smell(0, 0), 30);
        due("the first one, on", two.smell(2, 0), 34);
        due("the second one", two.smell(2, 1), 21);
        due("the second one, on", two.smell(0, 1), 25);
    }

    private static void breaths() {
        edge(15, "SMELLED, if that is above 0");
        SmellMap x = Check.city("l....;sp2;dn0");
        int[] want = {1, 1, 1, 0};
        for (int cell = 0; cell < 4; cell++) {
            due("breath(" + cell + ") by DULL 0, smell " + x.smell(cell, 0), x.breath(cell), want[cell]);
        }
        edge(15, "and no less than DULL");
        x.set(3, 2);
        due("smell 2, DULL 2", x.breath(2), 1);
        x.set(3, 3);
        due("smell 2, DULL 3", x.breath(2), 0);
        due("smell 4, DULL 3", x.breath(1), 1);
        SmellMap most = Check.city("l.;s;dn50");
        Check.law(most, "y:50");
        due("smell 50, DULL 50", most.breath(0), 1);
        Check.law(most, "y:49");
        due("smell 49, DULL 50", most.breath(0), 0);
        edge(15, "DULL 1 without a d, or without its n");
        due("smell 1", Check.city("l..;sp1").breath(1), 1);
        due("smell 1, d alone", Check.city("l..;sp1;d").breath(1), 1);
        due("smell 1, dn2", Check.city("l..;sp1;dn2").breath(1), 0);
        edge(15, "KINDS (bits)");
        for (int kind = 0; kind <= 4; kind++) {
            due("kind " + kind, Check.city("l.;sk" + kind).breath(0), 1 << kind);
        }
        due("all", Check.city("l.;s;sk1;sk2;sk3;sk4;sk4").breath(0), 31);
        due("the greatest of a kind counts", Check.city("l.;sp1;sp9;sp1;dn4").breath(0), 1);
        edge(15, "by RAIN, WIND, the HOUR as they are");
        SmellMap now = Check.city("l...;sp1;sk1f5u6;dn2");
        due("breath(0)", now.breath(0), 1);
        due("breath(1)", now.breath(1), 0);
        now.set(0, 2);
        due("breath(1), carried", now.breath(1), 1);
        now.set(1, 1);
        due("breath(0) in rain", now.breath(0), 0);
        now.set(2, 5);
        due("breath(0) at 5", now.breath(0), 2);
        now.set(2, 29);
        due("breath(0) at 29", now.breath(0), 2);
        edge(15, "NONE: no STREET");
        SmellMap town = Check.city(TOWN);
        due("a WALL", town.breath(11), -1);
        for (int cell : NO_CELLS) {
            due("breath(" + cell + ")", town.breath(cell), -1);
        }
        due("without a CITY", nowhere().breath(0), -1);
    }

    private static void strongest() {
        edge(16, "the KIND SMELLED with the greatest SMELL");
        SmellMap x = Check.city("l.....;sk1p4;sk3c4p4");
        int[] want = {1, 1, 1, 3, 3};
        for (int cell = 0; cell < 5; cell++) {
            due("strongest(" + cell + ")", x.strongest(cell), want[cell]);
        }
        due("the last kind", Check.city("l.;sk4").strongest(0), 4);
        due("the first kind", Check.city("l.;s").strongest(0), 0);
        due("the greatest, told first", Check.city("l.;sk4p9;sp8").strongest(0), 4);
        due("of a SMELL of 1", Check.city("l..;sk2p1").strongest(1), 2);
        edge(16, "(of several the lowest)");
        due("strongest(2), 8 of both", x.strongest(2), 1);
        due("of five", Check.city("l.;sk4;sk3;sk2;sk1;s").strongest(0), 0);
        due("of 2 and 4", Check.city("l.;sk4;sk2").strongest(0), 2);
        edge(16, "NONE: none is SMELLED");
        x.set(3, 8);
        due("8, DULL 8", x.strongest(2), 1);
        x.set(3, 9);
        due("8, DULL 9", x.strongest(2), -1);
        due("12, DULL 9", x.strongest(0), 1);
        due("0, DULL 0", Check.city("l.#.;s;dn0").strongest(2), -1);
        x.open(0, false);
        due("shut", x.strongest(0), -1);
        edge(16, "NONE: no STREET");
        SmellMap town = Check.city(TOWN);
        due("a WALL", town.strongest(11), -1);
        for (int cell : NO_CELLS) {
            due("strongest(" + cell + ")", town.strongest(cell), -1);
        }
        due("without a CITY", nowhere().strongest(0), -1);
    }

    /** A question that no CELL but a STREET gets an answer to. */
    private interface Question {
        int of(SmellMap x, int cell);
    }

    /** The last CELL of a full CITY stands in a row just ahead of the first one of the next SOURCE. */
    private static void noStreetsOfAFullCity() {
        SmellMap x = Check.city("l.....;l.....;l.....;l.....;sr3c4p9;sk1p9;sk2r3p9");
        ofAFullCity(x, 7, (y, cell) -> y.street(cell));
        ofAFullCity(x, 13, (y, cell) -> Math.max(y.far(0, cell), y.far(cell, 34)));
        ofAFullCity(x, 14, (y, cell) -> Math.max(y.smell(cell, 0), y.smell(cell, 1)));
        ofAFullCity(x, 15, (y, cell) -> y.breath(cell));
        ofAFullCity(x, 16, (y, cell) -> y.strongest(cell));
        ofAFullCity(x, 20, (y, cell) -> y.door(cell));
        ofAFullCity(x, 24, (y, cell) -> y.forged(cell, 0));
        ofAFullCity(x, 25, (y, cell) -> Math.max(y.follow(cell, 0, 0), y.follow(cell, 1, 1)));
        ofAFullCity(x, 27, (y, cell) -> y.sure(cell, 0));
        ofAFullCity(x, 28, (y, cell) -> y.note(0, cell, 1, true));
    }

    private static void ofAFullCity(SmellMap x, int promise, Question question) {
        edge(promise, "NONE: no such CELL of twenty STREETS");
        for (int cell : new int[] {-1, -2, -10, 5, 9, 15, 19, 25, 29, 35, 39, 40, 44, 50, 100, 340, MAX, MIN}) {
            due("of cell " + cell, question.of(x, cell), -1);
        }
    }

    private static void images() {
        edge(31, "An IMAGE: the HOUR");
        SmellMap x = Check.city(TOWN);
        due("image() at 0", x.image(), 0);
        x.set(2, 999);
        due("image() at 999", x.image(), 999);
        edge(31, "(instead of the one ahead)");
        x.set(2, 5);
        due("back()", x.back(), 999);
        x.set(2, 7);
        due("image()", x.image(), 7);
        x.set(2, 8);
        due("back() to the later one", x.back(), 7);
        edge(31, "an IMAGE leaves what can be UNDONE");
        x.set(2, 8);
        x.set(2, 9);
        x.image();
        due("acts", x.count(12), 2);
        due("undo()", x.undo(), 1);
        due("the hour", x.count(6), 8);
        due("back() behind it", x.back(), 9);
        edge(31, "NONE: no CITY");
        SmellMap y = nowhere();
        due("image()", y.image(), -1);
        due("text(0)", y.text(0), 1);
        due("back(), none was kept", y.back(), -1);
    }

    private static void backs() {
        edge(32, "they are so again: WIND, RAIN, the HOUR, DULL, SOURCES");
        SmellMap x = Check.city(TOWN);
        x.set(0, 3);
        x.set(1, 1);
        x.set(2, 30);
        x.set(3, 7);
        x.open(1, false);
        x.image();
        x.set(0, 1);
        x.set(1, 0);
        x.set(2, 40);
        x.set(3, 2);
        x.open(1, true);
        x.open(0, false);
        due("back()", x.back(), 30);
        due("the wind", x.count(7), 3);
        due("rain", x.count(8), 1);
        due("the hour", x.count(6), 30);
        due("dull", x.count(9), 7);
        due("source(0, 5)", x.source(0, 5), 1);
        due("source(1, 5)", x.source(1, 5), 0);
        edge(32, "(no ACT can be UNDONE then)");
        due("acts", x.count(12), 0);
        due("undo()", x.undo(), -1);
        x.set(0, 4);
        due("one behind it", x.undo(), 0);
        due("the wind", x.count(7), 3);
        due("undo()", x.undo(), -1);
        edge(32, "the IMAGE stays: BACK again");
        x.set(2, 77);
        due("back()", x.back(), 30);
        due("back() at once", x.back(), 30);
        edge(32, "an IMAGE keeps these alone: not the TRAIL, what is NOTED, the LAW, the TAPE");
        SmellMap y = Check.city(TOWN);
        y.image();
        y.trail(0, 1);
        y.note(0, 0, 0, true);
        Check.law(y, "y:50");
        y.feed('l', 0, 0, 0, 0);
        due("back()", y.back(), 0);
        due("the trail", y.count(10), 1);
        due("noted", y.count(11), 1);
        due("the law", y.smell(0, 0), 50);
        due("bytes", y.count(5), 1);
        edge(32, "NONE: no IMAGE of this CITY");
        SmellMap z = Check.city(TOWN);
        z.set(2, 3);
        due("none", z.back(), -1);
        due("the hour", z.count(6), 3);
        due("acts", z.count(12), 1);
        z.image();
        Check.put(z, TOWN);
        z.text(0);
        z.set(2, 4);
        due("of another", z.back(), -1);
        due("the hour", z.count(6), 4);
        due("without a CITY", nowhere().back(), -1);
        edge(32, "an IMAGE behind a FAULT is of this CITY still");
        z.image();
        z.set(2, 5);
        Check.put(z, "l.;");
        z.text(0);
        due("back()", z.back(), 4);
    }

    private static void counts() {
        edge(33, "0 ROWS .. 12 ACTS that can be UNDONE");
        SmellMap x = Check.city("l.....;l..#..;l.....;s;sk1;sk2;s;s;dn12");
        Check.law(x, "y:1");
        Check.law(x, "y:2");
        x.hours(2, 1);
        x.set(2, 100);
        x.set(0, 3);
        x.set(1, 1);
        for (int n = 0; n < 7; n++) {
            x.trail(1, 1);
        }
        for (int n = 0; n < 9; n++) {
            x.note(1, 1, 1, true);
        }
        x.feed(0x01020304, 0, 0, 0, 0);
        int[] want = {3, 5, 14, 5, 2, 4, 100, 3, 1, 12, 7, 9, 5};
        for (int what = 0; what <= 12; what++) {
            due("count(" + what + ")", x.count(what), want[what]);
        }
        edge(33, "HIDDEN for others");
        for (int odd : new int[] {13, 14, -1, -2, 100, MAX, MIN}) {
            due("count(" + odd + ")", x.count(odd), -1000000);
            due("count(" + odd + ") without a CITY", new SmellMap().count(odd), -1000000);
        }
        edge(33, "a CITY at its greatest");
        SmellMap full = Check.city("l.....;l.....;l.....;l.....;s;s;s;s;s;s;dn50");
        int[] most = {4, 5, 20, 6, 0, 0, 0, 0, 0, 50, 0, 0, 0};
        for (int what = 0; what <= 12; what++) {
            due("count(" + what + ")", full.count(what), most[what]);
        }
        edge(33, "a CITY at its least");
        SmellMap least = Check.city("l.;s");
        int[] few = {1, 1, 1, 1, 0, 0, 0, 0, 0, 1, 0, 0, 0};
        for (int what = 0; what <= 12; what++) {
            due("count(" + what + ")", least.count(what), few[what]);
        }
        edge(33, "the constants");
        due("NONE", SmellMap.NONE, -1);
        due("HIDDEN", SmellMap.HIDDEN, -1000000);
    }
}
