/** Trails, doors, noses, blind steps, the thief: each sentence of the document that names a boundary, by itself. */
public final class WalkEdgeTests {
    private static final int MAX = Integer.MAX_VALUE;
    private static final int MIN = Integer.MIN_VALUE;
    /** Streets 00 01 02 10 12, a wall 11; all streets are the bits 47. */
    private static final String TOWN = "l...;l.#.;sp3;sk1r1c2p2";
    /** Each street has a breath of its own: 1 2, 4 8 below them. */
    private static final String SQUARE = "l..;l..;sp1;sk1c1p1;sk2r1p1;sk3r1c1p1;dn2";
    private static final String ROW = "l.....;s";
    private static final int[] NO_CELLS = {11, 3, 4, 5, 9, 13, 19, 20, 22, 30, 100, -1, -9, -10, -11, MAX, MIN};
    private static final int[] NO_WHAT = {2, 3, -1, MAX, MIN};
    private static final int[] NO_KINDS = {5, 6, 31, 32, -1, MAX, MIN};

    public static void main(String[] args) {
        trails();
        wipes();
        wheres();
        stays();
        doors();
        mosts();
        silents();
        unlikes();
        forgeries();
        follows();
        leds();
        sures();
        notes();
        thieves();
        founds();
        Check.close("WalkEdgeTests");
    }

    private static void edge(int promise, String sentence) {
        Check.edge(promise, sentence);
    }

    private static void due(String what, long got, long want) {
        Check.due(what, got, want);
    }

    private static void due(String what, boolean got, boolean want) {
        Check.due(what, got, want);
    }

    /** No city, but bytes on the tape. */
    private static SmellMap nowhere() {
        SmellMap x = new SmellMap();
        Check.put(x, "l.;s");
        return x;
    }

    private static void trails() {
        edge(17, "TRAIL: how many there are; NONE: there are twelve");
        SmellMap x = Check.city(TOWN);
        for (int n = 1; n <= 12; n++) {
            due("trail(0, 3)", x.trail(0, 3), n);
        }
        due("a thirteenth", x.trail(0, 1), -1);
        due("a thirteenth alike", x.trail(0, 3), -1);
        due("count(10)", x.count(10), 12);
        due("twelve breaths of 3", x.where(0), 38);
        x.wipe();
        due("behind wipe()", x.trail(0, 3), 1);
        edge(17, "NONE: out of bounds (side 0 .. 4)");
        for (int side = 0; side <= 4; side++) {
            SmellMap y = Check.city(TOWN);
            due("trail(" + side + ", 0)", y.trail(side, 0), 1);
        }
        for (int odd : new int[] {5, 6, -1, MAX, MIN}) {
            due("trail(" + odd + ", 0)", x.trail(odd, 0), -1);
        }
        due("count(10)", x.count(10), 1);
        edge(17, "NONE: out of bounds (breath 0 .. 31)");
        for (int breath = 0; breath <= 31; breath++) {
            SmellMap y = Check.city(TOWN);
            due("trail(0, " + breath + ")", y.trail(0, breath), 1);
        }
        for (int odd : new int[] {32, 33, 64, -1, MAX, MIN}) {
            due("trail(0, " + odd + ")", x.trail(0, odd), -1);
        }
        due("count(10)", x.count(10), 1);
        edge(17, "NONE: no CITY");
        due("trail(0, 0)", nowhere().trail(0, 0), -1);
    }

    private static void wipes() {
        edge(18, "The TRAIL is empty again");
        SmellMap x = Check.city(TOWN);
        x.trail(0, 31);
        x.trail(4, 1);
        due("where(0)", x.where(0), 0);
        due("wipe()", x.wipe(), true);
        due("count(10)", x.count(10), 0);
        due("where(0)", x.where(0), 47);
        edge(18, "False: it is");
        due("wipe() again", x.wipe(), false);
        due("of a new city", Check.city(TOWN).wipe(), false);
        edge(18, "False: no CITY");
        due("wipe()", nowhere().wipe(), false);
    }

    private static void wheres() {
        edge(19, "STARTS (0), NOWS (1)");
        SmellMap x = Check.city(SQUARE);
        x.trail(2, 2);
        due("where(0), right to 2", x.where(0), 3);
        due("where(1), right to 2", x.where(1), 2);
        x.trail(3, 8);
        due("where(0), and down to 8", x.where(0), 3);
        due("where(1), and down to 8", x.where(1), 8);
        x.trail(4, 4);
        due("where(0), and left to 4", x.where(0), 3);
        due("where(1), and left to 4", x.where(1), 4);
        x.trail(1, 1);
        due("where(0), and up to 1", x.where(0), 3);
        due("where(1), and up to 1", x.where(1), 1);
        edge(19, "of an empty TRAIL: all STREETS");
        due("where(0)", Check.city(TOWN).where(0), 47);
        due("where(1)", Check.city(TOWN).where(1), 47);
        due("where(0) of twenty", Check.city("l.....;l.....;l.....;l.....;s").where(0), 0xfffff);
        edge(19, "a STEP to a side (0: none), then the BREATH there");
        x.wipe();
        for (int n = 0; n < 4; n++) {
            x.trail(0, 1 << n);
            due("where(0), stays on " + n, x.where(0), 1 << n);
            due("where(1), stays on " + n, x.where(1), 1 << n);
            x.wipe();
        }
        x.trail(2, 1);
        due("no breath ahead of the step: where(0)", x.where(0), 0);
        edge(19, "each BREATH was so");
        x.wipe();
        x.trail(0, 1);
        x.trail(0, 2);
        due("where(0), unlike breaths on one street", x.where(0), 0);
        due("where(1), unlike breaths on one street", x.where(1), 0);
        x.trail(0, 1);
        due("where(0), one wrong among three", x.where(0), 0);
        x.wipe();
        x.trail(0, 16);
        due("where(0), a breath of none", x.where(0), 0);
        x.wipe();
        x.trail(0, 3);
        due("where(0), a breath and more", x.where(0), 0);
        edge(19, "All by HOUR, WIND, RAIN as they are, all of it at once");
        SmellMap y = Check.city("l...;sp1f6u8;sk1c2p1;dn2");
        y.trail(0, 1);
        due("where(0) at 0", y.where(0), 0);
        y.set(2, 6);
        due("where(0) at 6", y.where(0), 1);
        y.set(0, 2);
        due("where(0) at 6 by wind 2", y.where(0), 3);
        y.set(1, 1);
        due("where(0) at 6 in rain", y.where(0), 0);
        y.set(1, 0);
        y.set(2, 8);
        due("where(0) at 8", y.where(0), 0);
        y.set(2, 31);
        due("where(0) at 31", y.where(0), 3);
        y.open(0, false);
        due("where(0), shut", y.where(0), 0);
        edge(19, "NONE: no such what");
        for (int odd : NO_WHAT) {
            due("where(" + odd + ")", y.where(odd), -1);
        }
        edge(19, "NONE: no CITY");
        due("where(0)", nowhere().where(0), -1);
        due("where(1)", nowhere().where(1), -1);
        edge(19, "a bit: ROW times COLUMNS and its COLUMN");
        SmellMap z = Check.city("l..;l..;l.#;l..;sr3c1p1;dn3");
        z.trail(0, 1);
        due("where(0)", z.where(0), 1 << 7);
        due("street 21 is a wall", z.street(21), 0);
    }

    /** One step to a side with a breath, in the square: from where, and where then. */
    private static void step(int side, int breath, int starts, int nows) {
        SmellMap x = Check.city(SQUARE);
        x.trail(side, breath);
        due("where(0), to " + side + " with " + breath, x.where(0), starts);
        due("where(1), to " + side + " with " + breath, x.where(1), nows);
    }

    private static void stays() {
        edge(19, "who would step where no STREET is stays: at the CITY's border");
        step(1, 1, 5, 1);
        step(1, 2, 10, 2);
        step(2, 2, 3, 2);
        step(2, 8, 12, 8);
        step(3, 4, 5, 4);
        step(3, 8, 10, 8);
        step(4, 1, 3, 1);
        step(4, 4, 12, 4);
        edge(19, "and comes to no other border: over none of the four");
        step(1, 4, 0, 0);
        step(1, 8, 0, 0);
        step(2, 1, 0, 0);
        step(2, 4, 0, 0);
        step(3, 1, 0, 0);
        step(3, 2, 0, 0);
        step(4, 2, 0, 0);
        step(4, 8, 0, 0);
        edge(19, "who would step where no STREET is stays: at a WALL");
        SmellMap x = Check.city("l#.#;l...;l#.#;sr1c1p1;dn3");
        int[] from = {4, 7, 3, 1, 5};
        for (int side = 0; side <= 4; side++) {
            x.trail(side, 1);
            due("where(0) to the middle by side " + side, x.where(0), 1 << from[side]);
            due("where(1) to the middle by side " + side, x.where(1), 16);
            x.wipe();
            SmellMap apart = Check.city("l.#;l#.;s;sk1r1c1");
            apart.trail(side, 1);
            due("where(0) between border and walls, by side " + side, apart.where(0), 1);
            due("where(1) between border and walls, by side " + side, apart.where(1), 1);
        }
        SmellMap cross = Check.city("l###;l#.#;l###;sr1c1");
        for (int side = 0; side <= 4; side++) {
            cross.trail(side, 1);
            due("where(0) between walls", cross.where(0), 16);
            due("where(1) between walls", cross.where(1), 16);
        }
    }

    private static void doors() {
        edge(20, "the fewest SOURCES OPEN");
        SmellMap x = Check.city("l...;sp2;sc2k1p2;sc1k2p1f1u2;dn3");
        due("door(1) at 0: two are needed", x.door(1), 3);
        x.set(2, 1);
        due("door(1) at 1: the third alone", x.door(1), 4);
        due("door of one STREET", Check.city("l.;s").door(0), 1);
        due("door of one STREET beside a wall", Check.city("l#.#;sc1;sc1").door(1), 1);
        due("the last of six", Check.city("l..;s;s;s;s;s;sk1p1;dn2").door(0), 32);
        due("the first and the last of six", Check.city("l..;s;s;s;s;s;sk1p1;dn2").door(1), 33);
        edge(20, "(of several the least)");
        SmellMap two = Check.city("l..;sp1;sp1;sc1k1p1;sc1k1p1;dn2");
        due("door(0), 1 or 2", two.door(0), 1);
        due("door(1), 4 or 8", two.door(1), 4);
        SmellMap pairs = Check.city("l...;sp2;sc2k1p2;sp2;sc2k1p2;dn3");
        due("door(1), 3 or 6 or 9 or 12", pairs.door(1), 3);
        edge(20, "(bits; the others not)");
        SmellMap both = Check.city("l..;sp1;sk1p5;dn2");
        due("door(0), whatever is open", both.door(0), 1);
        both.open(0, false);
        due("door(0), shut", both.door(0), 1);
        both.open(1, false);
        due("door(0), both shut", both.door(0), 1);
        due("they are shut still", both.breath(0), 0);
        edge(20, "SOURCES of the CITY alone: no forged one, none of another CITY");
        SmellMap forger = Check.city("l.....;sf1u2;sf1u2;sf1u2;sf1u2;sf1u2;sf1u2;dn15");
        due("forged(3, 2)", forger.forged(3, 2), 8);
        due("door(3)", forger.door(3), -1);
        due("most(0)", forger.most(0), 0);
        due("most(1)", forger.most(1), 1);
        due("silent()", forger.silent(), 31);
        SmellMap less = Check.city("l..;sp9;sk1p1;sk2p1;sk3p1;sk4p1;sk4p1;dn2");
        due("door(0) of six", less.door(0), 2);
        Check.put(less, "l..;sp9");
        less.text(0);
        due("door(0) of one behind six", less.door(0), -1);
        due("most(1) of one behind six", less.most(1), 1);
        due("breath(0) of one behind six", less.breath(0), 1);
        edge(20, "so that a STREET has a BREATH (not 0)");
        SmellMap none = Check.city("l..;sp1;dn2");
        due("door(0)", none.door(0), 1);
        due("door(1), breath 0 that no other has", none.door(1), -1);
        edge(20, "that no other STREET has");
        due("door(0), both alike", Check.city("l..;sp9").door(0), -1);
        due("door(0), more than another has", Check.city("l..;s;sk1p1;dn2").door(0), 2);
        due("door(0), apart", Check.city("l.#.;s;sc2").door(0), 1);
        edge(20, "by HOUR, WIND, RAIN as they are");
        SmellMap now = Check.city("l...;sp1f5u6;dn2");
        due("door(0) at 0", now.door(0), -1);
        now.set(2, 5);
        due("door(0) at 5", now.door(0), 1);
        now.set(0, 2);
        due("door(0) by wind 2", now.door(0), -1);
        now.set(0, 4);
        due("door(0) by wind 4", now.door(0), 1);
        now.set(1, 1);
        due("door(0) in rain", now.door(0), -1);
        edge(20, "NONE: it can't be");
        due("door(0) of the town", Check.city(TOWN).door(0), -1);
        edge(20, "NONE: no STREET");
        SmellMap town = Check.city(TOWN);
        town.set(3, 4);
        due("door(2) of the town", town.door(2), 3);
        for (int cell : NO_CELLS) {
            due("door(" + cell + ")", town.door(cell), -1);
        }
        due("without a CITY", nowhere().door(0), -1);
    }

    private static void most(String city, int set, int many) {
        SmellMap x = Check.city(city);
        due("most(0) of " + city, x.most(0), set);
        due("most(1) of " + city, x.most(1), many);
    }

    private static void mosts() {
        edge(21, "MOST: the most unlike BREATHS of STREETS (0, too)");
        most("l..;sp1;dn2", 1, 2);
        most("l...;sp1;sc2k1p1;dn2", 3, 3);
        most("l...;sp2;sc2k1p2;dn3", 3, 3);
        most("l#.#.;sc1;sc3k1", 1, 2);
        edge(21, "(of several the fewest): none of all");
        most("l..;s", 0, 1);
        most("l.;s;s;s;s;s;s", 0, 1);
        edge(21, "(of several the fewest, then the least)");
        most("l..;sp1;sc1k1p1;dn2", 1, 2);
        most("l..;sp9;sp1;sk2p1;dn2", 2, 2);
        most("l...;sp1;sp1;sc2k1p1;sc2k1p1;dn2", 5, 3);
        SmellMap x = Check.city("l..;l..;s;sk1c1;sk2r1;sk3;sk4");
        x.set(0, 2);
        Check.law(x, "y:f=0?9;y:k=3&f=1?9;y:k=4&f=2?9");
        due("most(0), two of 24 before three of 7", x.most(0), 24);
        due("most(1), two of 24 before three of 7", x.most(1), 4);
        edge(21, "the set of SOURCES OPEN, whatever is open");
        SmellMap y = Check.city("l..;sp9;sp1;dn2");
        y.open(1, false);
        due("most(0)", y.most(0), 2);
        y.open(0, false);
        due("most(0), all shut", y.most(0), 2);
        due("most(1), all shut", y.most(1), 2);
        due("it is shut still", y.source(1, 5), 0);
        edge(21, "all six");
        SmellMap six = Check.city("l.....;l.....;l.....;sk0;sk1c4;sk2r2;sk3r2c4;sk4r1c2;sk0r1c4;dn9");
        due("most(1)", six.most(1) >= 8, true);
        most("l..;s;s;s;s;s;sp1k1;dn2", 32, 2);
        edge(21, "BREATHS from 0 to 31, both counted");
        SmellMap nested = Check.city("l.....;l####.;s;sk1;sk2;sk3;sk4");
        Check.law(nested, "y:f<2*k+2?9");
        due("breath(0)", nested.breath(0), 31);
        due("breath(14)", nested.breath(14), 0);
        due("most(0)", nested.most(0), 31);
        due("most(1)", nested.most(1), 6);
        edge(21, "by HOUR, WIND, RAIN as they are");
        SmellMap now = Check.city("l..;sp1f5u6;dn2");
        due("most(1) at 0", now.most(1), 1);
        now.set(2, 5);
        due("most(1) at 5", now.most(1), 2);
        due("most(0) at 5", now.most(0), 1);
        now.set(0, 2);
        due("most(1) by wind 2", now.most(1), 1);
        now.set(0, 1);
        due("most(1) by wind 1", now.most(1), 2);
        now.set(1, 1);
        due("most(1) in rain", now.most(1), 1);
        edge(21, "NONE: no such what");
        for (int odd : NO_WHAT) {
            due("most(" + odd + ")", now.most(odd), -1);
        }
        edge(21, "NONE: no CITY");
        due("most(0)", nowhere().most(0), -1);
        due("most(1)", nowhere().most(1), -1);
    }

    private static void silents() {
        edge(22, "SILENT: STREETS (bits) with BREATH 0");
        SmellMap x = Check.city("l...;l.#.;sp1;dn0");
        due("silent()", x.silent(), 4 + 32);
        x.set(3, 2);
        due("silent(), DULL 2", x.silent(), 2 + 4 + 8 + 32);
        x.set(3, 4);
        due("silent(), all", x.silent(), 47);
        due("silent(), none", Check.city(TOWN).silent(), 0);
        due("silent() of twenty", Check.city("l.....;l.....;l.....;l.....;sf1u2").silent(), 0xfffff);
        edge(22, "no WALLS");
        due("silent() between walls", Check.city("l#.#;l#.#;sc1p1;dn3").silent(), 16);
        edge(22, "NONE: no CITY");
        due("silent()", nowhere().silent(), -1);
    }

    private static void unlikes() {
        edge(23, "UNLIKE: STREETS whose BREATH is another one by one WIND than by another");
        SmellMap x = Check.city("l...;l...;sc1p1;dn2");
        int[][] want = {{0, 1, 0}, {0, 2, 4}, {0, 3, 16}, {0, 4, 1}, {1, 2, 4}, {2, 4, 5}, {3, 4, 17}, {2, 3, 20}, {1, 3, 16}};
        for (int[] w : want) {
            due("unlike(" + w[0] + ", " + w[1] + ")", x.unlike(w[0], w[1]), w[2]);
            due("unlike(" + w[1] + ", " + w[0] + ")", x.unlike(w[1], w[0]), w[2]);
        }
        edge(23, "a WIND is never unlike itself");
        for (int wind = 0; wind <= 4; wind++) {
            due("unlike(" + wind + ", " + wind + ")", x.unlike(wind, wind), 0);
        }
        edge(23, "whatever WIND there is, and it stays");
        for (int wind = 1; wind <= 4; wind++) {
            x.set(0, wind);
            due("unlike(0, 2) in wind " + wind, x.unlike(0, 2), 4);
            due("the wind", x.count(7), wind);
        }
        due("breath(0) by wind 4", x.breath(0), 1);
        due("breath(2) by wind 4", x.breath(2), 0);
        edge(23, "by HOUR and RAIN as they are, by the law's w");
        Check.law(x, "y:w=3?9");
        due("unlike(0, 3) by a law of w", x.unlike(0, 3), 63);
        due("unlike(1, 2) by a law of w", x.unlike(1, 2), 0);
        x.law(-1);
        x.set(1, 1);
        due("unlike(0, 2) in rain", x.unlike(0, 2), 0);
        edge(23, "NONE: no such WINDS");
        for (int odd : new int[] {5, 6, -1, MAX, MIN}) {
            due("unlike(" + odd + ", 0)", x.unlike(odd, 0), -1);
            due("unlike(0, " + odd + ")", x.unlike(0, odd), -1);
            due("unlike(" + odd + ", " + odd + ")", x.unlike(odd, odd), -1);
        }
        edge(23, "NONE: no CITY");
        due("unlike(0, 1)", nowhere().unlike(0, 1), -1);
        due("unlike(0, 0)", nowhere().unlike(0, 0), -1);
    }

    private static void forgeries() {
        edge(24, "a SOURCE more (POWER 5)");
        SmellMap x = Check.city("l.....;sf1u2");
        due("forged(2, 1)", x.forged(2, 1), 31);
        x.set(3, 15);
        due("forged(2, 1), DULL 15", x.forged(2, 1), 4);
        x.set(3, 16);
        due("forged(2, 1), DULL 16", x.forged(2, 1), 0);
        x.set(3, 13);
        due("forged(2, 1), DULL 13", x.forged(2, 1), 14);
        x.set(0, 2);
        due("forged(2, 1), DULL 13, wind 2", x.forged(2, 1), 4 + 8 + 16);
        x.set(1, 1);
        due("forged(2, 1) in rain", x.forged(2, 1), 0);
        edge(24, "its letters: p 5, k its KIND");
        Check.law(x, "y:p=5?99");
        due("forged(2, 1) by p", x.forged(2, 1), 31);
        Check.law(x, "y:k=3?99");
        due("forged(2, 3) by k", x.forged(2, 3), 31);
        due("forged(2, 1) by k", x.forged(2, 1), 0);
        edge(24, "all day");
        SmellMap day = Check.city("l..;sf1u2k1");
        for (int hour = 0; hour <= 24; hour++) {
            day.set(2, hour);
            due("forged(1, 0) at " + hour, day.forged(1, 0), 3);
        }
        edge(24, "OPEN, though all others are shut; and it is gone again");
        SmellMap shut = Check.city("l..;s;s;s;s;s;s");
        due("forged(0, 2), a seventh", shut.forged(0, 2), 3);
        for (int source = 0; source < 6; source++) {
            shut.open(source, false);
        }
        due("forged(0, 0)", shut.forged(0, 0), 3);
        due("breath(0)", shut.breath(0), 0);
        due("smell(0, 0)", shut.smell(0, 0), 0);
        due("silent()", shut.silent(), 3);
        due("sources", shut.count(3), 6);
        edge(24, "STREETS whose BREATH is another one then");
        SmellMap town = Check.city(TOWN);
        due("forged(10, 0), smelled already", town.forged(10, 0), 0);
        due("forged(10, 1), where it was not", town.forged(10, 1), 9);
        due("forged(10, 2)", town.forged(10, 2), 47);
        due("forged where it never comes", Check.city("l.#.;s").forged(2, 1), 4);
        edge(24, "NONE: no STREET");
        for (int cell : NO_CELLS) {
            due("forged(" + cell + ", 0)", town.forged(cell, 0), -1);
        }
        due("without a CITY", nowhere().forged(0, 0), -1);
        edge(24, "NONE: no such KIND");
        for (int kind = 0; kind <= 4; kind++) {
            due("forged(0, " + kind + ")", Check.city("l.;sf1u2").forged(0, kind), 1);
        }
        for (int odd : NO_KINDS) {
            due("forged(0, " + odd + ")", town.forged(0, odd), -1);
        }
    }

    private static void follow(SmellMap x, int cell, int kind, int end, int steps) {
        due("follow(" + cell + ", " + kind + ", 0)", x.follow(cell, kind, 0), end);
        due("follow(" + cell + ", " + kind + ", 1)", x.follow(cell, kind, 1), steps);
    }

    private static void follows() {
        edge(25, "again and again to the CELL beside it with the greatest SMELL of it");
        follow(Check.city("l.;l.;l.;sp2;sr2p3"), 10, 0, 20, 1);
        follow(Check.city("l...;sp3;sc2p2"), 1, 0, 0, 1);
        SmellMap winding = Check.city("l.....;l####.;l.....;l.####;sp9");
        follow(winding, 30, 0, 0, 11);
        follow(winding, 14, 0, 0, 5);
        Check.law(winding, "y:f");
        follow(winding, 0, 0, 30, 11);
        edge(25, "(of several by sides 1 .. 4)");
        follow(Check.city("l#.;l..;sc1p2;sr1p2"), 11, 0, 1, 1);
        follow(Check.city("l...;sp2;sc2p2"), 1, 0, 2, 1);
        follow(Check.city("l.;l.;l.;sp2;sr2p2"), 10, 0, 0, 1);
        follow(Check.city("l..;l.#;sc1p2;sr1p2"), 0, 0, 1, 1);
        follow(Check.city("l..;l#.;sp2;sr1c1p2"), 1, 0, 11, 1);
        follow(Check.city("l.#;l..;sp2;sr1c1p2"), 10, 0, 0, 1);
        SmellMap cross = Check.city("l#.#;l...;l#.#;sc1p3;sr1c2p3;sr2c1p3;sr1p3;sr1c1p1");
        Check.law(cross, "y:f=0&p=3?9");
        int[] ends = {1, 12, 21, 10, 11};
        for (int n = 0; n < 5; n++) {
            follow(cross, 11, 0, ends[n], n < 4 ? 1 : 0);
            cross.open(n, false);
        }
        edge(25, "if that is more than here");
        follow(Check.city("l...;sp2"), 0, 0, 0, 0);
        follow(Check.city("l..;s;sc1"), 1, 0, 1, 0);
        SmellMap flat = Check.city("l...;sp9");
        flat.set(0, 2);
        flat.set(1, 1);
        follow(flat, 1, 0, 1, 0);
        follow(flat, 2, 0, 1, 1);
        Check.law(flat, "y:99");
        follow(flat, 2, 0, 2, 0);
        edge(25, "where one ends; behind how many STEPS: without SMELL here, none");
        SmellMap town = Check.city(TOWN);
        follow(town, 10, 1, 10, 0);
        follow(town, 0, 4, 0, 0);
        follow(town, 1, 1, 12, 2);
        follow(town, 0, 1, 12, 3);
        edge(25, "SMELL, whether it is SMELLED or not");
        town.set(3, 50);
        follow(town, 12, 0, 0, 3);
        edge(25, "by HOUR, WIND, RAIN as they are");
        SmellMap now = Check.city("l...;sf5u6p9;sc2p9");
        follow(now, 1, 0, 2, 1);
        now.open(1, false);
        follow(now, 1, 0, 1, 0);
        now.set(2, 5);
        follow(now, 1, 0, 0, 1);
        edge(25, "NONE: no STREET");
        for (int cell : NO_CELLS) {
            due("follow(" + cell + ", 0, 0)", town.follow(cell, 0, 0), -1);
            due("follow(" + cell + ", 0, 1)", town.follow(cell, 0, 1), -1);
        }
        due("without a CITY", nowhere().follow(0, 0, 0), -1);
        edge(25, "NONE: no such KIND");
        for (int odd : NO_KINDS) {
            due("follow(0, " + odd + ", 0)", town.follow(0, odd, 0), -1);
            due("follow(0, " + odd + ", 1)", town.follow(0, odd, 1), -1);
        }
        edge(25, "NONE: no such what");
        for (int odd : NO_WHAT) {
            due("follow(0, 0, " + odd + ")", town.follow(0, 0, odd), -1);
        }
    }

    private static void leds() {
        edge(26, "STREETS (bits) from which one comes so to a SOURCE of that KIND");
        SmellMap town = Check.city(TOWN);
        due("led(0)", town.led(0), 47);
        due("led(1)", town.led(1), 39);
        due("led(2), no such one", town.led(2), 0);
        due("led(0) where it never comes", Check.city("l.#.;s").led(0), 1);
        due("led(0) to one of two", Check.city("l.....;sp1;sc4p1").led(0), 31);
        due("led(0) from where there is a smell beside", Check.city("l.....;sp1").led(0), 7);
        due("led(0) on the last cell", Check.city("l.....;l.....;l.....;l.....;sr3c4p9").led(0), 0xfffff);
        edge(26, "its CELL: from there, none needed");
        due("led(0)", Check.city("l..;sp1f0u0;dn50").led(0), 3);
        due("led(0) by smell 0", lawful("l..;s", "y:0").led(0), 1);
        edge(26, "comes so: where one stops on the way, not");
        SmellMap flat = Check.city("l...;sp9");
        flat.set(0, 2);
        flat.set(1, 1);
        due("led(0)", flat.led(0), 1);
        edge(26, "comes so: where one ends, not what one passes");
        due("led(0) away from it", lawful("l...;s", "y:f").led(0), 0);
        edge(26, "that SMELLS");
        SmellMap later = Check.city("l...;sp2;sc2f5u6p2");
        Check.law(later, "y:10+f");
        due("led(0) at 0: to where none smells now", later.led(0), 0);
        later.set(2, 5);
        due("led(0) at 5: by both", later.led(0), 7);
        later.open(1, false);
        due("led(0) at 5: shut", later.led(0), 0);
        edge(26, "of that KIND alone");
        due("led(0) to one of kind 1", lawful("l...;s;sk1c2", "y:f+1").led(0), 0);
        edge(26, "NONE: no such KIND");
        for (int kind = 0; kind <= 4; kind++) {
            due("led(" + kind + ")", Check.city("l.;sk" + kind).led(kind), 1);
        }
        for (int odd : NO_KINDS) {
            due("led(" + odd + ")", town.led(odd), -1);
        }
        edge(26, "NONE: no CITY");
        due("led(0)", nowhere().led(0), -1);
    }

    private static SmellMap lawful(String city, String law) {
        SmellMap x = Check.city(city);
        Check.law(x, law);
        return x;
    }

    private static void sure(SmellMap x, int cell, int steps, int first) {
        due("sure(" + cell + ", 0)", x.sure(cell, 0), steps);
        due("sure(" + cell + ", 1)", x.sure(cell, 1), first);
    }

    private static void sures() {
        edge(27, "the fewest behind which one surely is on a CELL (who would step where no STREET is stays)");
        SmellMap row = Check.city(ROW);
        int[] steps = {4, 5, 6, 5, 4};
        int[] first = {4, 4, 2, 2, 2};
        for (int cell = 0; cell < 5; cell++) {
            sure(row, cell, steps[cell], first[cell]);
        }
        edge(27, "(of several rows of STEPS the least as digits)");
        SmellMap square = Check.city("l..;l..;s");
        sure(square, 0, 2, 1);
        sure(square, 1, 2, 1);
        sure(square, 11, 2, 2);
        sure(square, 10, 2, 3);
        sure(Check.city("l.;l.;l.;s"), 10, 3, 1);
        edge(27, "(0: none needed)");
        sure(Check.city("l.;s"), 0, 0, 0);
        SmellMap there = Check.city(SQUARE);
        there.trail(0, 8);
        sure(there, 11, 0, 0);
        sure(there, 10, 1, 4);
        sure(there, 1, 1, 1);
        sure(there, 0, 2, 1);
        edge(27, "who can be on any of NOWS");
        SmellMap nows = Check.city("l.....;sp2");
        sure(nows, 4, 4, 2);
        nows.trail(0, 0);
        sure(nows, 4, 1, 2);
        sure(nows, 0, 4, 4);
        nows.trail(2, 0);
        sure(nows, 4, 0, 0);
        edge(27, "STEPS told ahead, without breathing");
        SmellMap blind = Check.city(SQUARE);
        sure(blind, 0, 2, 1);
        edge(27, "NONE: it can't be");
        SmellMap apart = Check.city("l.#.;s");
        sure(apart, 0, -1, -1);
        sure(apart, 2, -1, -1);
        apart.trail(0, 1);
        sure(apart, 0, 0, 0);
        sure(apart, 2, -1, -1);
        edge(27, "NONE: it can't be, though it could ahead of it");
        SmellMap later = Check.city(ROW);
        sure(later, 4, 4, 2);
        Check.put(later, "l..#..;s");
        later.text(0);
        for (int cell : new int[] {0, 1, 3, 4}) {
            sure(later, cell, -1, -1);
        }
        later.trail(0, 1);
        sure(later, 1, 1, 2);
        sure(later, 4, -1, -1);
        edge(27, "NONE: nobody can be anywhere");
        SmellMap nobody = Check.city(ROW);
        nobody.trail(0, 31);
        sure(nobody, 0, -1, -1);
        sure(nobody, 4, -1, -1);
        edge(27, "NONE: no STREET");
        SmellMap town = Check.city(TOWN);
        for (int cell : NO_CELLS) {
            sure(town, cell, -1, -1);
        }
        due("without a CITY", nowhere().sure(0, 0), -1);
        edge(27, "NONE: no such what");
        for (int odd : NO_WHAT) {
            due("sure(0, " + odd + ")", town.sure(0, odd), -1);
        }
        edge(27, "12 at most in all");
        sure(Check.city("l.....;l.....;l..###;s"), 0, 6, 1);
        sure(Check.city("l...;l...;l...;l...;s"), 32, 5, 2);
        sure(Check.city("l.....;l####.;l.....;l.####;s"), 0, 11, 1);
        edge(27, "HIDDEN: more than 12 STREETS");
        SmellMap thirteen = Check.city("l.....;l.....;l...##;s");
        sure(thirteen, 0, -1000000, -1000000);
        sure(thirteen, 22, -1000000, -1000000);
        thirteen.trail(0, 1);
        sure(thirteen, 0, -1000000, -1000000);
        sure(Check.city("l.....;l.....;l.....;l.....;s"), 34, -1000000, -1000000);
        edge(27, "HIDDEN: in all, wherever one can be");
        SmellMap one = Check.city("l.....;l.....;l...##;sp1;dn3");
        one.trail(0, 1);
        due("where(1)", one.where(1), 1);
        sure(one, 0, -1000000, -1000000);
        edge(27, "NONE, not HIDDEN: no STREET, no such what of more than 12");
        sure(thirteen, 23, -1, -1);
        sure(thirteen, 30, -1, -1);
        due("sure(0, 2)", thirteen.sure(0, 2), -1);
        due("sure(0, -1)", thirteen.sure(0, -1), -1);
    }

    private static void notes() {
        edge(28, "NOTED: how many there are; NONE: there are twelve");
        SmellMap x = Check.city(TOWN);
        for (int n = 1; n <= 12; n++) {
            due("note(" + n + ", 0, 9, true)", x.note(n, 0, 9, true), n);
        }
        due("a thirteenth", x.note(1, 0, 0, true), -1);
        due("a thirteenth alike", x.note(12, 0, 9, true), -1);
        due("count(11)", x.count(11), 12);
        due("thief(1)", x.thief(1), 47);
        edge(28, "NONE: out of bounds: a MINUTE (0 .. 30)");
        x = Check.city(TOWN);
        due("note(0, ..)", x.note(0, 0, 0, false), 1);
        due("note(30, ..)", x.note(30, 0, 0, false), 2);
        for (int odd : new int[] {31, 32, -1, MAX, MIN}) {
            due("note(" + odd + ", ..)", x.note(odd, 0, 0, true), -1);
        }
        due("count(11)", x.count(11), 2);
        edge(28, "NONE: out of bounds: STEPS (0 .. 9)");
        x = Check.city(TOWN);
        due("0 steps", x.note(0, 0, 0, false), 1);
        due("9 steps", x.note(0, 0, 9, true), 2);
        for (int odd : new int[] {10, 11, -1, MAX, MIN}) {
            due(odd + " steps", x.note(0, 0, odd, true), -1);
        }
        due("count(11)", x.count(11), 2);
        due("thief(0)", x.thief(0), 46);
        edge(28, "NONE: no STREET");
        x = Check.city(TOWN);
        for (int cell : NO_CELLS) {
            due("note(0, " + cell + ", 0, true)", x.note(0, cell, 0, true), -1);
            due("note(0, " + cell + ", 0, false)", x.note(0, cell, 0, false), -1);
        }
        due("count(11)", x.count(11), 0);
        due("without a CITY", nowhere().note(0, 0, 0, true), -1);
        edge(28, "the same may be NOTED twice");
        due("note(4, 2, 1, true)", x.note(4, 2, 1, true), 1);
        due("note(4, 2, 1, true) again", x.note(4, 2, 1, true), 2);
    }

    private static void thieves() {
        edge(29, "each MINUTE he stays or goes a STEP");
        SmellMap x = Check.city(ROW);
        x.note(10, 0, 0, true);
        int[] on = {1, 3, 7, 15, 31, 31};
        for (int n = 0; n <= 5; n++) {
            due("thief(" + (10 + n) + ")", x.thief(10 + n), on[n]);
            due("thief(" + (10 - n) + ")", x.thief(10 - n), on[n]);
        }
        due("thief(0)", x.thief(0), 31);
        due("thief(30)", x.thief(30), 31);
        edge(29, "no WALLS, not over a border");
        SmellMap walls = Check.city("l..#;l.#.;l...;s");
        walls.note(3, 1, 0, true);
        due("thief(4)", walls.thief(4), 3);
        due("thief(5)", walls.thief(5), 3 + 8);
        due("thief(6)", walls.thief(6), 3 + 8 + 64);
        due("thief(0)", walls.thief(0), 3 + 8 + 64);
        edge(29, "of nothing NOTED: all STREETS in each MINUTE");
        for (int minute = 0; minute <= 30; minute++) {
            due("thief(" + minute + ")", Check.city(TOWN).thief(minute), 47);
        }
        edge(29, "within so many STEPS (by FAR without WIND: half of that)");
        for (int steps = 0; steps <= 9; steps++) {
            SmellMap y = Check.city("l.....;l####.;l.....;l.####;s");
            y.set(0, 2);
            y.note(0, 0, steps, true);
            SmellMap z = Check.city("l.....;l####.;l.....;l.####;s");
            z.note(0, 0, steps, false);
            due("within " + steps, Integer.bitCount(y.thief(0)), steps + 1);
            due("not within " + steps, Integer.bitCount(z.thief(0)), 11 - steps);
            due("both", y.thief(0) | z.thief(0), z.where(0));
        }
        edge(29, "no WIND");
        SmellMap wind = Check.city(ROW);
        for (int blows = 4; blows >= 0; blows--) {
            wind.set(0, blows);
            if (blows == 4) {
                wind.note(5, 2, 1, true);
            }
            due("thief(5) by wind " + blows, wind.thief(5), 14);
            due("thief(6) by wind " + blows, wind.thief(6), 31);
        }
        edge(29, "or was not");
        SmellMap not = Check.city(ROW);
        not.note(0, 0, 1, false);
        due("thief(0)", not.thief(0), 28);
        due("thief(1)", not.thief(1), 30);
        due("thief(2)", not.thief(2), 31);
        edge(29, "what never comes there is not within");
        SmellMap apart = Check.city("l.#.;s");
        apart.note(4, 0, 9, true);
        due("thief(0), within", apart.thief(0), 1);
        apart = Check.city("l.#.;s");
        apart.note(4, 0, 9, false);
        due("thief(0), not within", apart.thief(0), 4);
        due("thief(30), not within", apart.thief(30), 4);
        edge(29, "by all that is NOTED: of a MINUTE, of earlier and of later ones");
        SmellMap all = Check.city(ROW);
        all.note(5, 2, 1, true);
        all.note(5, 4, 1, true);
        due("thief(5), two of one minute", all.thief(5), 8);
        all.note(9, 0, 0, true);
        due("thief(5)", all.thief(5), 8);
        due("thief(6)", all.thief(6), 8 + 4);
        due("thief(7)", all.thief(7), 4 + 2);
        due("thief(8)", all.thief(8), 2 + 1);
        due("thief(9)", all.thief(9), 1);
        due("thief(4)", all.thief(4), 16 + 8 + 4);
        due("thief(10)", all.thief(10), 3);
        edge(29, "the first MINUTE and the last");
        SmellMap ends = Check.city(ROW);
        ends.note(0, 0, 0, true);
        ends.note(30, 4, 0, true);
        due("thief(0)", ends.thief(0), 1);
        due("thief(1)", ends.thief(1), 3);
        due("thief(29)", ends.thief(29), 24);
        due("thief(30)", ends.thief(30), 16);
        edge(29, "what can't be: nowhere in any MINUTE");
        SmellMap never = Check.city(ROW);
        never.note(5, 0, 0, true);
        never.note(6, 2, 0, true);
        for (int minute = 0; minute <= 30; minute++) {
            due("thief(" + minute + ")", never.thief(minute), 0);
        }
        SmellMap last = Check.city(ROW);
        last.note(30, 0, 0, true);
        last.note(30, 0, 0, false);
        due("thief(0)", last.thief(0), 0);
        due("thief(30)", last.thief(30), 0);
        edge(29, "NONE: no such MINUTE");
        for (int odd : new int[] {31, 32, -1, MAX, MIN}) {
            due("thief(" + odd + ")", x.thief(odd), -1);
        }
        edge(29, "NONE: no CITY");
        due("thief(0)", nowhere().thief(0), -1);
    }

    private static void founds() {
        edge(30, "the first MINUTE (0 .. 30) of which there is just one; which CELL");
        for (int minute = 0; minute <= 30; minute++) {
            SmellMap x = Check.city(TOWN);
            x.note(minute, 12, 0, true);
            due("found(0)", x.found(0), minute);
            due("found(1)", x.found(1), 12);
            if (minute < 29) {
                x.note(minute + 2, 1, 1, true);
                x.note(minute + 2, 2, 0, true);
            }
            due("found(0), the first", x.found(0), minute);
            due("found(1), the first", x.found(1), 12);
        }
        edge(30, "just one, by all that is NOTED");
        SmellMap both = Check.city(ROW);
        both.note(6, 4, 1, true);
        both.note(8, 0, 1, true);
        due("found(0)", both.found(0), 6);
        due("found(1)", both.found(1), 3);
        SmellMap early = Check.city(ROW);
        early.note(2, 4, 0, true);
        due("found(0), by one alone", early.found(0), 2);
        early.note(0, 1, 1, true);
        due("found(0), by a later one", early.found(0), 0);
        due("found(1), by a later one", early.found(1), 2);
        edge(30, "of one STREET: the first MINUTE");
        SmellMap one = Check.city("l###;l##.;sr1c2");
        due("found(0)", one.found(0), 0);
        due("found(1)", one.found(1), 12);
        SmellMap corner = Check.city("l####.;l#####;l#####;l#####;sc4");
        due("found(1)", corner.found(1), 4);
        due("found(1) of the last", Check.city("l#####;l#####;l#####;l####.;sr3c4").found(1), 34);
        edge(30, "NONE: none");
        SmellMap none = Check.city(TOWN);
        due("found(0) of nothing noted", none.found(0), -1);
        due("found(1) of nothing noted", none.found(1), -1);
        none.note(3, 0, 1, true);
        due("found(0) of three", none.found(0), -1);
        due("found(1) of three", none.found(1), -1);
        edge(30, "NONE: none, where he can have been nowhere");
        SmellMap never = Check.city(ROW);
        never.note(5, 0, 0, true);
        never.note(6, 2, 0, true);
        due("found(0)", never.found(0), -1);
        due("found(1)", never.found(1), -1);
        edge(30, "NONE: no such what");
        for (int odd : NO_WHAT) {
            due("found(" + odd + ")", both.found(odd), -1);
        }
        edge(30, "NONE: no CITY");
        due("found(0)", nowhere().found(0), -1);
        due("found(1)", nowhere().found(1), -1);
    }
}
