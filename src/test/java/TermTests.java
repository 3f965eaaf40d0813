/** The part "Terms": sentences that hold for many promises at once, each held against every call that it binds. */
public final class TermTests {
    private static final int[] DOWN = {0, -1, 0, 1, 0};
    private static final int[] RIGHT = {0, 0, 1, 0, -1};
    /** A ring of ten streets round two walls; sources by hours, of unlike kinds and powers. */
    private static final String RING = "l....;l.##.;l....;sp9;sk1r2c3p4;sk2c3p2f6u18;sk1r2p7f20u4;dn2";
    private static final int CHANGES = 24;

    public static void main(String[] args) {
        for (int rows = 1; rows <= 4; rows++) {
            for (int columns = 1; columns <= 5; columns++) {
                cells(rows, columns);
                bits(rows, columns);
            }
        }
        sides();
        atFirst();
        atOnce();
        Check.close("TermTests");
    }

    private static void edge(int promise, String sentence) {
        Check.edge(promise, sentence);
    }

    private static void due(String what, long got, long want) {
        Check.due(what, got, want);
    }

    /** A city of streets alone with one source, and a clause more. */
    private static SmellMap open(int rows, int columns, int sourceRow, int sourceColumn, String more) {
        String row = "l" + ".".repeat(columns) + ";";
        return Check.city(row.repeat(rows) + "sr" + sourceRow + "c" + sourceColumn + more);
    }

    /** Each cell of a city of streets alone, by all calls that are told a cell, or tell one. */
    private static void cells(int rows, int columns) {
        edge(7, "A CELL is told as 10 times its ROW and its COLUMN: of " + rows + " ROWS, " + columns + " COLUMNS");
        for (int row = 0; row < rows; row++) {
            for (int column = 0; column < columns; column++) {
                SmellMap x = open(rows, columns, row, column, "p9");
                due("source(0, 1)", x.source(0, 1), 10 * row + column);
                for (int cell = 0; cell < 60; cell++) {
                    boolean is = cell / 10 < rows && cell % 10 < columns;
                    int far = 2 * (Math.abs(cell / 10 - row) + Math.abs(cell % 10 - column));
                    String name = "source on " + (10 * row + column) + ", cell " + cell + ": ";
                    due(name + "street", x.street(cell), is ? 1 : -1);
                    due(name + "far to", x.far(10 * row + column, cell), is ? far : -1);
                    due(name + "far from", x.far(cell, 10 * row + column), is ? far : -1);
                    due(name + "smell", x.smell(cell, 0), is ? 27 - far : -1);
                    due(name + "breath", x.breath(cell), is ? 1 : -1);
                    due(name + "strongest", x.strongest(cell), is ? 0 : -1);
                    due(name + "follow, where", x.follow(cell, 0, 0), is ? 10 * row + column : -1);
                    due(name + "follow, steps", x.follow(cell, 0, 1), is ? far / 2 : -1);
                }
            }
        }
    }

    /** Each street of a city of streets alone, by all calls that tell a set. */
    private static void bits(int rows, int columns) {
        edge(19, "in sets as a bit: ROW times COLUMNS and its COLUMN: of " + rows + " ROWS, " + columns + " COLUMNS");
        int all = (1 << rows * columns) - 1;
        for (int row = 0; row < rows; row++) {
            for (int column = 0; column < columns; column++) {
                SmellMap x = open(rows, columns, row, column, "p1;dn3");
                int cell = 10 * row + column;
                int bit = 1 << row * columns + column;
                String name = "source on " + cell + ": ";
                due(name + "silent", x.silent(), all - bit);
                due(name + "trail", x.trail(0, 1), 1);
                due(name + "STARTS", x.where(0), bit);
                due(name + "NOWS", x.where(1), bit);
                due(name + "door", x.door(cell), 1);
                due(name + "forged there", x.forged(cell, 4), near(rows, columns, row, column, 6));
                due(name + "note", x.note(7, cell, 0, true), 1);
                due(name + "CANS", x.thief(7), bit);
                due(name + "CANS next", x.thief(8), near(rows, columns, row, column, 1));
                due(name + "FOUND, the MINUTE", x.found(0), all == 1 ? 0 : 7);
                due(name + "FOUND, the CELL", x.found(1), cell);
                due(name + "sure, none needed", x.sure(cell, 0), rows * columns > 12 ? -1000000 : 0);
                Check.law(x, "y:f=0&w=2?9;y:f<1&w=4?2");
                due(name + "unlike", x.unlike(2, 4), bit);
                x.set(0, 2);
                due(name + "led", x.led(0), near(rows, columns, row, column, 1));
            }
        }
    }

    /** The streets (bits) of a city of streets alone within some steps of one. */
    private static int near(int rows, int columns, int row, int column, int steps) {
        int set = 0;
        for (int r = 0; r < rows; r++) {
            for (int c = 0; c < columns; c++) {
                if (Math.abs(r - row) + Math.abs(c - column) <= steps) {
                    set |= 1 << r * columns + c;
                }
            }
        }
        return set;
    }

    private static void sides() {
        int[] fares = {2, 1, 2, 3, 2};
        for (int side = 1; side <= 4; side++) {
            int goal = 11 + 10 * DOWN[side] + RIGHT[side];
            int bit = 1 << (1 + DOWN[side]) * 3 + 1 + RIGHT[side];
            edge(13, "STEPS go to CELLS above (1), right (2), below (3), left (4), no WALLS: side " + side);
            SmellMap x = open(3, 3, 1 + DOWN[side], 1 + RIGHT[side], "p3");
            for (int wind = 0; wind <= 4; wind++) {
                x.set(0, wind);
                int turned = wind == 0 ? 0 : (wind - side + 4) % 4 + 1;
                due("far(11, " + goal + ") by wind " + wind, x.far(11, goal), fares[turned]);
            }
            x.set(0, 0);
            edge(25, "FOLLOW goes to the CELL beside: side " + side);
            due("follow from 11, where", x.follow(11, 0, 0), goal);
            due("follow from 11, steps", x.follow(11, 0, 1), 1);
            edge(27, "the first of them: side " + side);
            SmellMap y = Check.city("l.#.;l...;l#.#;sp1r1c1;dn3");
            due("trail(0, 1)", y.trail(0, 1), 1);
            due("NOWS", y.where(1), 16);
            int want = side == 1 ? -1 : goal;
            due("sure(" + goal + ", 0)", y.sure(goal, 0), want < 0 ? -1 : 1);
            due("sure(" + goal + ", 1)", y.sure(goal, 1), want < 0 ? -1 : side);
            edge(19, "a STEP to a side: " + side);
            y.wipe();
            SmellMap z = open(3, 3, 1, 1, "p1;dn3");
            z.trail(0, 1);
            due("trail(" + side + ", 0)", z.trail(side, 0), 2);
            due("STARTS", z.where(0), 16);
            due("NOWS", z.where(1), bit);
            edge(29, "each MINUTE he stays or goes a STEP: to side " + side + ", no WALLS");
            due("note(0, 11, 0, true)", y.note(0, 11, 0, true), 1);
            due("thief(1) at " + goal, y.thief(1) & bit, side == 1 ? 0 : bit);
        }
    }

    private static void atFirst() {
        edge(33, "WIND .. 0 at first; RAIN or not (at first not); The HOUR is 0 at first; OPEN (at first each is)");
        SmellMap x = Check.city(RING);
        asFirst("a new object's first city", x);
        x.set(0, 3);
        x.set(1, 1);
        x.set(2, 30);
        x.set(3, 9);
        x.open(0, false);
        x.open(3, false);
        x.trail(1, 1);
        x.note(1, 0, 1, true);
        Check.law(x, "y:77");
        Check.put(x, RING);
        due("text(0)", x.text(0), 10);
        asFirst("a city behind another", x);
        edge(14, "none at first: three times POWER less FAR");
        due("smell(0, 0)", x.smell(0, 0), 27);
        due("smell(23, 0)", x.smell(23, 0), 17);
        x.law(0);
        due("smell(23, 0), by the law that stayed", x.smell(23, 0), 77);
    }

    private static void asFirst(String name, SmellMap x) {
        int[] counts = {3, 4, 10, 4, -1, 0, 0, 0, 0, 2, 0, 0, 0};
        for (int what = 0; what <= 12; what++) {
            if (what != 4) {
                due(name + ": count(" + what + ")", x.count(what), counts[what]);
            }
        }
        for (int source = 0; source < 4; source++) {
            due(name + ": source(" + source + ", 5)", x.source(source, 5), 1);
        }
        due(name + ": source(2, 6), from 6 on", x.source(2, 6), 0);
        due(name + ": source(3, 6), until 4", x.source(3, 6), 1);
        due(name + ": undo()", x.undo(), -1);
        due(name + ": back()", x.back(), -1);
    }

    /** What was asked ahead of a change must leave nothing behind: an object never asked answers alike. */
    private static void atOnce() {
        edge(19, "(All by HOUR, WIND, RAIN as they are, all of it at once.)");
        SmellMap asked = Check.city(RING);
        String last = "";
        int unlike = 0;
        for (int changes = 0; changes <= CHANGES; changes++) {
            SmellMap fresh = Check.city(RING);
            for (int n = 1; n <= changes; n++) {
                change(fresh, n);
            }
            if (changes > 0) {
                change(asked, changes);
            }
            String answers = answers(asked);
            Check.due("behind change " + changes + " all is as if never asked", answers.equals(answers(fresh)), true);
            unlike += answers.equals(last) ? 0 : 1;
            last = answers;
        }
        due("changes that tell", unlike, CHANGES + 1);
    }

    private static void change(SmellMap x, int n) {
        switch (n) {
            case 1: x.set(0, 2); break;
            case 2: x.set(0, 4); break;
            case 3: x.set(1, 1); break;
            case 4: x.set(2, 7); break;
            case 5: x.set(3, 5); break;
            case 6: x.open(0, false); break;
            case 7: x.undo(); break;
            case 8: Check.law(x, "y:w=4?2*p-f/2;y:h>6&f<4?p*k+1;y:9-f"); break;
            case 9: x.set(0, 1); break;
            case 10: x.set(2, 21); break;
            case 11: x.image(); x.set(0, 0); break;
            case 12: x.law(-1); break;
            case 13: x.hours(2, 5); break;
            case 14: x.trail(0, 1); break;
            case 15: x.note(4, 2, 1, true); break;
            case 16: x.undo(); break;
            case 17: x.trail(2, x.breath(1)); break;
            case 18: x.wipe(); break;
            case 19: x.note(6, 20, 2, false); break;
            case 20: x.back(); break;
            case 21: x.open(3, false); break;
            case 22: x.set(3, 0); break;
            case 23: Check.put(x, "l.....;l....#;l.....;sp4;sk2r2c4p4f1;dn3"); x.text(0); break;
            default: x.set(0, 3); break;
        }
    }

    private static String answers(SmellMap x) {
        StringBuilder b = new StringBuilder();
        for (int what = 0; what <= 12; what++) {
            b.append(x.count(what)).append(' ');
        }
        for (int cell = 0; cell < 25; cell++) {
            b.append(x.street(cell)).append(x.breath(cell)).append(x.strongest(cell)).append(x.door(cell)).append(' ');
            b.append(x.far(0, cell)).append(' ').append(x.far(cell, 3)).append(' ');
            b.append(x.sure(cell, 0)).append(' ').append(x.sure(cell, 1)).append(' ');
            for (int kind = 0; kind < 5; kind++) {
                b.append(x.smell(cell, kind)).append(' ').append(x.forged(cell, kind)).append(' ');
                b.append(x.follow(cell, kind, 0)).append(' ').append(x.follow(cell, kind, 1)).append(' ');
            }
        }
        for (int n = 0; n < 5; n++) {
            b.append(x.led(n)).append(' ').append(x.unlike(n, (n + 2) % 5)).append(' ').append(x.thief(n * 2)).append(' ');
        }
        b.append(x.where(0)).append(' ').append(x.where(1)).append(' ').append(x.most(0)).append(' ').append(x.most(1));
        b.append(' ').append(x.silent()).append(' ').append(x.found(0)).append(' ').append(x.found(1));
        return b.toString();
    }
}
