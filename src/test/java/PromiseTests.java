/** Promise by promise: ordinary inputs, the edges that the document names, wrong inputs. */
public final class PromiseTests {
    private static final int[] ODD = {-1, -10, 5, 7, 15, 40, 50, 100, Integer.MAX_VALUE, Integer.MIN_VALUE};
    /** Streets 00 01 02 10 12, a wall 11; all streets are the bits 47. */
    private static final String TOWN = "l...;l.#.;sp3;sk1r1c2p2";
    private static final String ROW = "l.....;s";

    public static void main(String[] args) {
        made();
        fed();
        ended();
        faultsOfCities();
        faultsOfLaws();
        texts();
        textAgain();
        sources();
        streets();
        laws();
        lawWorths();
        lawConditions();
        sets();
        opened();
        hours();
        undone();
        farness();
        smells();
        timesOfSmells();
        breaths();
        strongest();
        trails();
        wheres();
        doors();
        mosts();
        silents();
        unlikes();
        forgeries();
        follows();
        leds();
        sures();
        noted();
        thieves();
        founds();
        images();
        counts();
        Check.close("PromiseTests");
    }

    private static void due(String what, long got, long want) {
        Check.due(what, got, want);
    }

    private static void due(String what, boolean got, boolean want) {
        Check.due(what, got, want);
    }

    /** Promise 1. */
    private static void made() {
        SmellMap x = new SmellMap();
        for (int what = 0; what <= 12; what++) {
            due("count(" + what + ") of a new one", x.count(what), 0);
        }
        due("street(0) of a new one", x.street(0), -1);
        due("law(-1) of a new one", x.law(-1), false);
        due("set(3, 1) of a new one", x.set(3, 1), false);
        due("open(0, false) of a new one", x.open(0, false), false);
        due("hours(1, 0) of a new one", x.hours(1, 0), -1);
        due("undo() of a new one", x.undo(), -1);
        due("far(0, 0) of a new one", x.far(0, 0), -1);
        due("smell(0, 0) of a new one", x.smell(0, 0), -1);
        due("breath(0) of a new one", x.breath(0), -1);
        due("strongest(0) of a new one", x.strongest(0), -1);
        due("trail(0, 0) of a new one", x.trail(0, 0), -1);
        due("wipe() of a new one", x.wipe(), false);
        due("where(0) of a new one", x.where(0), -1);
        due("door(0) of a new one", x.door(0), -1);
        due("most(0) of a new one", x.most(0), -1);
        due("silent() of a new one", x.silent(), -1);
        due("unlike(0, 1) of a new one", x.unlike(0, 1), -1);
        due("forged(0, 0) of a new one", x.forged(0, 0), -1);
        due("follow(0, 0, 0) of a new one", x.follow(0, 0, 0), -1);
        due("led(0) of a new one", x.led(0), -1);
        due("sure(0, 0) of a new one", x.sure(0, 0), -1);
        due("note(0, 0, 0, true) of a new one", x.note(0, 0, 0, true), -1);
        due("thief(0) of a new one", x.thief(0), -1);
        due("found(0) of a new one", x.found(0), -1);
        due("image() of a new one", x.image(), -1);
        due("back() of a new one", x.back(), -1);
        Check.sourceThrows(x, 0, 0);
    }

    /** Promise 2. */
    private static void fed() {
        SmellMap x = new SmellMap();
        due("feed of zeros", x.feed(0, 0, 0, 0, 0), 0);
        due("feed with zeros within", x.feed(0x006c0000, 0x2e00003b, 0, 0x73, 0), 4);
        due("fault(0) of l.;s", x.fault(0), -1);
        due("text(0) of l.;s", x.text(0), 1);
        due("feed of twenty", x.feed(-1, -1, -1, -1, -1), 20);
        due("feed of one", x.feed(0, 0, 0, 0, 0x01000000), 21);
        x.end(20);
        for (int n = 2; n <= 8; n++) {
            due("feed up to " + 20 * n, x.feed(-1, -1, -1, -1, -1), 20 * n);
        }
        due("feed of one too many", x.feed(0, 0, 1, 0, 0), -1);
        due("count(5) behind it", x.count(5), 160);
        due("feed of none on a full tape", x.feed(0, 0, 0, 0, 0), 160);
        x.end(141);
        due("feed of twenty on 141", x.feed(-1, -1, -1, -1, -1), -1);
        due("feed of nineteen on 141", x.feed(-1, -1, 0xff00ffff, -1, -1), 160);
    }

    /** Promise 3. */
    private static void ended() {
        SmellMap x = new SmellMap();
        due("end(0) of an empty tape", x.end(0), true);
        due("end(1) of an empty tape", x.end(1), false);
        Check.put(x, "l.;s;d");
        due("end(7) of six", x.end(7), false);
        due("end(-1)", x.end(-1), false);
        due("end(min)", x.end(Integer.MIN_VALUE), false);
        due("end(max)", x.end(Integer.MAX_VALUE), false);
        due("count(5) behind those", x.count(5), 6);
        due("end(6) of six", x.end(6), true);
        due("end(4)", x.end(4), true);
        due("count(5) then", x.count(5), 4);
        due("fault(0) of the first four", x.fault(0), -1);
        due("end(3)", x.end(3), true);
        due("fault(0) of the first three", x.fault(0), 3);
    }

    private static void city(String text, int want) {
        due("fault(0) of \"" + text + "\"", Check.cityFault(text), want);
    }

    private static void law(String text, int want) {
        due("fault(1) of \"" + text + "\"", Check.lawFault(text), want);
    }

    /** Promise 4, cities. */
    private static void faultsOfCities() {
        city(TOWN, -1);
        city("", 0);
        city("   ", 3);
        city(" l . ; s ", -1);
        city(";l.;s", 0);
        city("l.;;s", 3);
        city("l.;s;", 5);
        city("l.;s; ", 6);
        city("L.;s", 0);
        city("l.s", 2);
        city("l;s", 1);
        city("l", 1);
        city("l.x;s", 2);
        city("l.....;s", -1);
        city("l......;s", 6);
        city("l.#.#.#;s", 6);
        city("l.;l.;l.;l.;s", -1);
        city("l.;l.;l.;l.;l.;s", 12);
        city("l.;l.;l.;l.;s; l.", 15);
        city("l.;s;s;s;s;s;s", -1);
        city("l.;s;s;s;s;s;s;s", 15);
        city("d;l.;s", -1);
        city("d;l.;s;d", 7);
        city("dn0;l.;s", -1);
        city("dn50;l.;s", -1);
        city("dn51;l.;s", 3);
        city("dn9 9;l.;s", 4);
        city("dn1n2;l.;s", 3);
        city("dk1;l.;s", 1);
        city("dn;l.;s", 2);
        city("dn", 2);
        city("s", 1);
        city("l.", 2);
        city("l#;s", 4);
        city("l.;l..;s", 8);
        city("l..;l.;sc1", 10);
        city("l.;sc1", 6);
        city("l.;sr1", 6);
        city("l.#;sc1", 7);
        city("sr3c4;l.....;l.....;l.....;l.....", -1);
        city("l.;sk4", -1);
        city("l.;sk5", 5);
        city("l.;sk04", -1);
        city("l.;sk05", 6);
        city("l.;sk004", 7);
        city("l.;sk567", 7);
        city("l.;sk56", 6);
        city("l.;sr4", 5);
        city("l.;sc5", 5);
        city("l.;sf23", -1);
        city("l.;sf24", 6);
        city("l.;su23", -1);
        city("l.;su24", 6);
        city("l.;su240", 7);
        city("l.;sp1", -1);
        city("l.;sp9", -1);
        city("l.;sp0", 5);
        city("l.;sp00", 6);
        city("l.;sp09", -1);
        city("l.;sp10", 6);
        city("l.;sn1", 4);
        city("l.;sk", 5);
        city("l.;skk", 5);
        city("l.;sk1k1", 6);
        city("l.;sk1 p2 k1", 10);
        city("l.;sk0r0c0f0u0p1", -1);
        city("l.;sk0r0c0f0u0p1k", 16);
        city("l.;sp1u0f0c0r0k0 x", 17);
        city("l.;sk1 2", 7);
        city("l.;sk-1", 5);
        city("l.;s" + (char) 233, 4);
        city("l.;s" + (char) 10, 4);
        due("fault(2)", new SmellMap().fault(2), -2);
        due("fault(-1)", new SmellMap().fault(-1), -2);
        due("fault(max)", new SmellMap().fault(Integer.MAX_VALUE), -2);
    }

    /** Promise 4, laws. */
    private static void faultsOfLaws() {
        law("y:3*p-f", -1);
        law(" y : 3 * p - f ; y : 1 ", -1);
        law("", 0);
        law("  ", 2);
        law("y", 1);
        law("y:", 2);
        law(":1", 0);
        law("y1", 1);
        law("y:1;", 4);
        law("y:1;;y:2", 4);
        law("y:1 y:2", 4);
        law("y:1+", 4);
        law("y:+1", 2);
        law("y:-1", 2);
        law("y:1+-1", 4);
        law("y:9999", -1);
        law("y:0000", -1);
        law("y:00000", 6);
        law("y:1 2", 4);
        law("y:pf", 3);
        law("y:z", 2);
        law("y:p f", 4);
        law("y:[p]", -1);
        law("y:[p", 4);
        law("y:[]", 3);
        law("y:p]", 3);
        law("y:[p)", 4);
        law("y:(p)", 4);
        law("y:(p=1)", 7);
        law("y:(p=1)?1", -1);
        law("y:(p=1)+1", 7);
        law("y:(p=1)=1", 7);
        law("y:((p=1)|p>2&!f<3)?1", -1);
        law("y:[p=1]", 4);
        law("y:[(p=1)]", 3);
        law("y:p=(1)", 4);
        law("y:p=1+(1", 6);
        law("y:p=1", 5);
        law("y:p=1=1", 5);
        law("y:p?1", 3);
        law("y:p|1", 3);
        law("y:p&f=1?1", 3);
        law("y:p=1|f?1", 7);
        law("y:p=1|f=2?1", -1);
        law("y:p=1|(f=2)&!k=3?1", -1);
        law("y:p=1?", 6);
        law("y:p=1;y:1", 5);
        law("y:p=1?2?3", 7);
        law("y:p=1?2=3", 7);
        law("y:p=1?(2", 6);
        law("y:p=1?!2", 6);
        law("y:p=1)?1", 5);
        law("y:!p", 4);
        law("y:!p=1?1", -1);
        law("y:p!=1?1", 3);
        law("y:!", 3);
        law("y:[[[[[[1]]]]]]", -1);
        law("y:[[[[[[[1]]]]]]]", 8);
        law("y:((((((p=1))))))?1", -1);
        law("y:(((((((p=1)))))))?1", 8);
        law("y:!!!!!!p=1?1", -1);
        law("y:!!!!!!!p=1?1", 8);
        law("y:!(!(!([p]=1)))?1", 8);
        law("y:!(!([[p]]=1))?1", -1);
        law("y:!(!([[p+[1]]]=1))?1", 10);
        law("y:[[[p]]]+[[[p]]]*[[[p]]]=[[[1]]]&!!!p=1|!!!f=1?[[[[[[1]]]]]]", -1);
        law("y:!!!!!!p=[1]?1", 10);
        law("y:p:1", 3);
        law("y:p=[[[[[[1]]]]]]?1", -1);
        law("y:p=[[[[[[[1]]]]]]]?1", 10);
        law("y:p=1&((((((p=1))))))?1", -1);
        law("y:p=1&(((((((p=1)))))))?1", 12);
        law("y:p=1|((((((p=1))))))?1", -1);
        law("y:p=1|!!!!!!!p=1?1", 12);
        law("y:p=1?[[[[[[1]]]]]]", -1);
        law("y:p=1?[[[[[[[1]]]]]]]", 12);
        law("x:1", 0);
        law("y:1;y:2;y:3;y:4;y:5;y:6;y:7;y:8", -1);
    }

    /** Promise 5: what is answered. */
    private static void texts() {
        SmellMap x = new SmellMap();
        due("text(0) of an empty tape", x.text(0), -1);
        due("text(1) of an empty tape", x.text(1), -1);
        Check.put(x, TOWN);
        due("text(1) of a city", x.text(1), -1);
        due("text(2)", x.text(2), -1);
        due("text(-1)", x.text(-1), -1);
        due("count(5) behind those", x.count(5), TOWN.length());
        due("text(0) of a city", x.text(0), 5);
        due("count(5) behind it", x.count(5), 0);
        for (int law = 0; law < 4; law++) {
            Check.put(x, "y:" + law);
            due("text(1), one more", x.text(1), law);
            due("count(5) behind it", x.count(5), 0);
            due("count(4) behind it", x.count(4), law + 1);
        }
        Check.put(x, "y:4");
        due("fault(1) with four", x.fault(1), -1);
        due("text(1) with four", x.text(1), -1);
        due("count(5) with four", x.count(5), 3);
        due("count(4) with four", x.count(4), 4);
        x.law(3);
        due("the fourth law", x.smell(0, 0), 3);
        x.law(0);
        due("the first law", x.smell(0, 0), 0);
        Check.put(x, "l.;");
        due("text(0) with a fault", x.text(0), -1);
        due("count(5) behind it", x.count(5), 3);
        due("count(2) behind it", x.count(2), 5);
        due("source(1, 1) behind it", x.source(1, 1), 12);
        Check.put(x, "sc1r1;dn7;l#.;s r1;l..");
        due("text(0), clauses in any order", x.text(0), 3);
        due("street(0) then", x.street(0), 0);
        due("street(11) then", x.street(11), 1);
        SmellMap y = Check.city("l.;s");
        Check.put(y, "y:1");
        due("fault(1) of one law", y.fault(1), -1);
        Check.put(y, "y:2");
        due("text(1) of another law", y.text(1), 0);
        y.law(0);
        due("smell by the other law", y.smell(0, 0), 2);
        due("source(0, 1) then", x.source(0, 1), 11);
        due("source(1, 1) then", x.source(1, 1), 10);
        due("count(9) then", x.count(9), 7);
    }

    /** Promise 5: all of another city is gone but laws, none holds. */
    private static void textAgain() {
        SmellMap x = Check.city(TOWN + ";dn3");
        Check.law(x, "y:42");
        due("far(0, 10) of the first city", x.far(0, 10), 2);
        x.set(0, 2);
        x.set(1, 1);
        x.set(2, 77);
        x.open(0, false);
        x.trail(0, 0);
        x.note(0, 0, 0, true);
        x.image();
        Check.put(x, "l.#;l..;sr1;s");
        due("text(0) again", x.text(0), 3);
        int[] want = {2, 2, 3, 2, 1, 0, 0, 0, 0, 1, 0, 0, 0};
        for (int what = 0; what < want.length; what++) {
            due("count(" + what + ") behind a second city", x.count(what), want[what]);
        }
        due("source(0, 5) behind a second city", x.source(0, 5), 1);
        due("smell without the law", x.smell(0, 0), 15);
        due("back() behind a second city", x.back(), -1);
        due("undo() behind a second city", x.undo(), -1);
        due("thief(0) behind a second city", x.thief(0), 13);
        due("law(0), kept", x.law(0), true);
        due("smell with the law", x.smell(0, 0), 42);
        due("far(0, 11) of the second city", x.far(0, 11), 4);
        due("far(0, 1) of the second city", x.far(0, 1), -1);
        Check.put(x, "l..;l..;s");
        due("text(0), a third", x.text(0), 4);
        due("far(0, 11) of the third city", x.far(0, 11), 4);
        due("far(0, 1) of the third city", x.far(0, 1), 2);
        Check.put(x, "l...;sk3c2f4u5p7;d n9");
        x.text(0);
        Check.put(x, "l...;sk3c2f4u5p7;d n9");
        x.text(0);
        for (int city = 0; city < 2; city++) {
            Check.put(x, "l...;s;d");
            x.text(0);
            int[] usual = {0, 0, 0, 0, 5};
            for (int what = 0; what < usual.length; what++) {
                due("source(0, " + what + ") without items", x.source(0, what), usual[what]);
            }
            due("count(9) without n", x.count(9), 1);
        }
    }

    /** Promise 6. */
    private static void sources() {
        SmellMap x = Check.city("l.....;l.....;sk4r1c3f22u6p9;s;sf6u22;su1");
        int[] first = {4, 13, 22, 6, 9, 1, 1};
        int[] second = {0, 0, 0, 0, 5, 1, 1};
        for (int what = 0; what < 7; what++) {
            due("source(0, " + what + ")", x.source(0, what), first[what]);
            due("source(1, " + what + ")", x.source(1, what), second[what]);
        }
        due("source(2, 6) at 0", x.source(2, 6), 0);
        due("source(3, 6) at 0", x.source(3, 6), 1);
        due("source(3, 3)", x.source(3, 3), 1);
        int[] hours = {5, 6, 21, 22, 23, 24, 29, 30, 46, 999};
        int[] night = {1, 0, 0, 1, 1, 1, 1, 0, 1, 0};
        for (int i = 0; i < hours.length; i++) {
            x.set(2, hours[i]);
            due("source(0, 6) at " + hours[i], x.source(0, 6), night[i]);
            due("source(1, 6) at " + hours[i], x.source(1, 6), 1);
            due("source(2, 6) at " + hours[i], x.source(2, 6), 1 - night[i]);
        }
        x.set(2, 1);
        due("source(3, 6) at 1", x.source(3, 6), 0);
        x.open(1, false);
        due("source(1, 5) shut", x.source(1, 5), 0);
        due("source(1, 6) shut", x.source(1, 6), 0);
        int[][] wrong = {{4, 0}, {-1, 0}, {0, 7}, {0, -1}, {6, 0}, {7, 0}, {Integer.MAX_VALUE, 0}, {0, Integer.MIN_VALUE}};
        for (int[] w : wrong) {
            Check.sourceThrows(x, w[0], w[1]);
        }
        SmellMap same = Check.city("l.;sf9u9;sf5");
        due("source(0, 6), from and until alike", same.source(0, 6), 1);
        due("source(1, 6), until 0, at 0", same.source(1, 6), 0);
        same.set(2, 23);
        due("source(1, 6), until 0, at 23", same.source(1, 6), 1);
    }

    /** Promise 7. */
    private static void streets() {
        SmellMap x = Check.city(TOWN);
        int[][] want = {{0, 1}, {2, 1}, {10, 1}, {11, 0}, {12, 1}, {3, -1}, {9, -1}, {13, -1}, {20, -1}, {-1, -1},
            {-10, -1}, {Integer.MAX_VALUE, -1}, {Integer.MIN_VALUE, -1}};
        for (int[] w : want) {
            due("street(" + w[0] + ")", x.street(w[0]), w[1]);
        }
        SmellMap full = Check.city("l.....;l.....;l.....;l....#;s");
        due("street(34)", full.street(34), 0);
        due("street(33)", full.street(33), 1);
        due("street(40)", full.street(40), -1);
        due("street(5)", full.street(5), -1);
    }

    /** Promise 8. */
    private static void laws() {
        SmellMap x = new SmellMap();
        Check.put(x, "y:7");
        due("text(1) without a city", x.text(1), 0);
        due("law(0) without a city", x.law(0), false);
        due("law(-1) without a city", x.law(-1), false);
        Check.put(x, TOWN);
        x.text(0);
        due("smell by none", x.smell(0, 0), 9);
        due("law(1)", x.law(1), false);
        due("law(-2)", x.law(-2), false);
        due("law(max)", x.law(Integer.MAX_VALUE), false);
        due("law(min)", x.law(Integer.MIN_VALUE), false);
        due("smell by none still", x.smell(0, 0), 9);
        due("law(0)", x.law(0), true);
        due("law(0) again", x.law(0), true);
        due("smell by it", x.smell(0, 0), 7);
        due("law(4)", x.law(4), false);
        due("smell by it still", x.smell(0, 0), 7);
        due("a law is no act", x.count(12), 0);
        due("law(-1)", x.law(-1), true);
        due("law(-1) again", x.law(-1), true);
        due("smell by none again", x.smell(0, 0), 9);
    }

    /** The smell of kind 3, POWER 7, at cell 2 (FAR 4), at hour 30 with wind 4 (to the left: FAR 6). */
    private static void worth(String law, int want) {
        SmellMap x = Check.city("l...;sk3p7");
        Check.law(x, law);
        due(law, x.smell(2, 3), want);
    }

    private static void lawWorths() {
        worth("y:p", 7);
        worth("y:f", 4);
        worth("y:k", 3);
        worth("y:w", 0);
        worth("y:h", 0);
        SmellMap x = Check.city("l...;sk3p7");
        Check.law(x, "y:h");
        x.set(2, 30);
        due("y:h at 30", x.smell(2, 3), 6);
        Check.law(x, "y:w*10+f");
        x.set(0, 4);
        due("y:w*10+f with wind 4", x.smell(2, 3), 46);
        Check.law(x, "y:0");
        due("y:0 with wind 4", x.smell(2, 3), 0);
        worth("y:99", 99);
        worth("y:100", 99);
        worth("y:0-1", 0);
        worth("y:7/2", 3);
        worth("y:[0-7]/2+50", 47);
        worth("y:[0-7]/[0-2]", 3);
        worth("y:5/0+9", 9);
        worth("y:9-5/[p-7]", 9);
        worth("y:20-5-3", 12);
        worth("y:40/4/2", 5);
        worth("y:40/4*2", 20);
        worth("y:2+3*4", 14);
        worth("y:[2+3]*4", 20);
        worth("y:20-[5-3]", 18);
        worth("y:9999*9999-[9999*100+50]", 50);
        worth("y:0-9999*9999+[9999*100+60]+90", 50);
        worth("y:9999*9999*9999/9999-50", 50);
        worth("y:[9999*100+9999]-[9999*100+40]", 60);
        worth("y:[0-9999*100-9999]+[9999*100+40]+99", 39);
        worth("y:9999*100+100-[9999*100]", 99);
        worth("y:[[[[[[5]]]]]]", 5);
        worth("y:0012", 12);
    }

    private static void lawConditions() {
        worth("y:p=7?11;y:22", 11);
        worth("y:p=6?11;y:22", 22);
        worth("y:p>7?11;y:22", 22);
        worth("y:p>6?11;y:22", 11);
        worth("y:p<7?11;y:22", 22);
        worth("y:p<8?11;y:22", 11);
        worth("y:p>7?1;y:p<7?2", 0);
        worth("y:5;y:6", 5);
        worth("y:p=1&p=2|p=7?7;y:9", 7);
        worth("y:p=7|p=1&p=2?7;y:9", 7);
        worth("y:(p=7|p=1)&p=2?7;y:9", 9);
        worth("y:!p=7&p=1?7;y:9", 9);
        worth("y:!p=7?7;y:9", 9);
        worth("y:!p=6?7;y:9", 7);
        worth("y:!!p=6?7;y:9", 9);
        worth("y:!p=7|!p=6?7;y:9", 7);
        worth("y:p>6&f=4?7;y:9", 7);
        worth("y:p<8&f=4?7;y:9", 7);
        worth("y:!p>7&!p<7?7;y:9", 7);
        worth("y:!(p=7&p=1)?7;y:9", 7);
        worth("y:!!p=7?7;y:9", 7);
        worth("y:!(p=7)|f=4?7;y:9", 7);
        worth("y:[p+1]*2=16?7;y:9", 7);
        worth("y:p=1?1;y:p=2?2;y:p=7?3;y:4", 3);
        worth("y:p=7?f;y:9", 4);
        worth("y:2=2&3<2+2?8", 8);
        worth(" y : p = 7 ? 11 ; y : 2", 11);
    }

    /** Promise 9. */
    private static void sets() {
        SmellMap x = Check.city(TOWN);
        int[] most = {4, 1, 999, 50};
        int[] place = {7, 8, 6, 9};
        int acts = 0;
        for (int what = 0; what < 4; what++) {
            due("set(" + what + ", most)", x.set(what, most[what]), true);
            due("set(" + what + ", most) again", x.set(what, most[what]), false);
            due("set(" + what + ", one too much)", x.set(what, most[what] + 1), false);
            due("set(" + what + ", -1)", x.set(what, -1), false);
            due("set(" + what + ", max)", x.set(what, Integer.MAX_VALUE), false);
            due("count of it", x.count(place[what]), most[what]);
            due("set(" + what + ", 0)", x.set(what, 0), true);
            due("set(" + what + ", 0) again", x.set(what, 0), false);
            due("count of it then", x.count(place[what]), 0);
            acts += 2;
            due("acts", x.count(12), acts);
        }
        for (int odd : new int[] {-1, 4, 5, Integer.MAX_VALUE, Integer.MIN_VALUE}) {
            due("set(" + odd + ", 0)", x.set(odd, 0), false);
            due("set(" + odd + ", 1)", x.set(odd, 1), false);
        }
        due("acts behind all", x.count(12), acts);
        x.set(1, 1);
        due("rain halves", x.smell(0, 0), 4);
        due("rain halves, 7", x.smell(1, 0), 3);
    }

    /** Promise 10. */
    private static void opened() {
        SmellMap x = Check.city(TOWN);
        due("open(0, true), it is", x.open(0, true), false);
        due("open(1, false)", x.open(1, false), true);
        due("open(1, false) again", x.open(1, false), false);
        due("source(1, 5)", x.source(1, 5), 0);
        due("source(0, 5)", x.source(0, 5), 1);
        due("smell of it", x.smell(12, 1), 0);
        due("smell of the other", x.smell(12, 0), 3);
        due("open(1, true)", x.open(1, true), true);
        due("smell of it then", x.smell(12, 1), 6);
        due("open(2, true)", x.open(2, true), false);
        due("open(2, false)", x.open(2, false), false);
        due("open(-1, false)", x.open(-1, false), false);
        due("open(32, false)", x.open(32, false), false);
        due("open(max, false)", x.open(Integer.MAX_VALUE, false), false);
        due("acts", x.count(12), 2);
    }

    /** Promise 11; the draws were reckoned apart. */
    private static void hours() {
        SmellMap x = Check.city(TOWN);
        int[] wind = {3, 3, 0, 4, 4, 0};
        int[] rain = {0, 0, 0, 1, 0, 0};
        for (int n = 1; n <= 6; n++) {
            SmellMap y = Check.city(TOWN);
            due("hours(" + n + ", 7)", y.hours(n, 7), n);
            due("wind behind them", y.count(7), wind[n - 1]);
            due("rain behind them", y.count(8), rain[n - 1]);
            due("acts behind them", y.count(12), n);
        }
        due("hours(1, -1)", x.hours(1, -1), 1);
        due("its wind", x.count(7), 3);
        due("its rain", x.count(8), 0);
        due("hours(1, 0)", x.hours(1, 0), 2);
        due("its wind", x.count(7), 2);
        due("its rain", x.count(8), 1);
        due("hours(5, max)", x.hours(5, Long.MAX_VALUE), 7);
        due("its wind", x.count(7), 4);
        due("its rain", x.count(8), 1);
        due("hours(0, 1)", x.hours(0, 1), -1);
        due("hours(25, 1)", x.hours(25, 1), -1);
        due("hours(-1, 1)", x.hours(-1, 1), -1);
        due("hours(max, 1)", x.hours(Integer.MAX_VALUE, 1), -1);
        due("the hour behind those", x.count(6), 7);
        due("hours(24, 1)", x.hours(24, 1), 31);
        x.set(2, 975);
        due("hours(24, 1) at 975", x.hours(24, 1), 999);
        due("hours(1, 1) at 999", x.hours(1, 1), -1);
        x.set(2, 976);
        int wind976 = x.count(7);
        due("hours(24, 1) at 976", x.hours(24, 1), -1);
        due("the hour still", x.count(6), 976);
        due("the wind still", x.count(7), wind976);
        due("hours(23, 1) at 976", x.hours(23, 1), 999);
    }

    /** Promise 12. */
    private static void undone() {
        SmellMap x = Check.city(TOWN);
        due("undo() of none", x.undo(), -1);
        x.set(3, 9);
        x.open(0, false);
        x.hours(2, 7);
        due("acts", x.count(12), 4);
        due("undo() of an hour", x.undo(), 3);
        due("the hour then", x.count(6), 1);
        due("the wind then", x.count(7), 3);
        due("undo() of the other", x.undo(), 2);
        due("the hour then", x.count(6), 0);
        due("the wind then", x.count(7), 0);
        due("undo() of open", x.undo(), 1);
        due("source(0, 5) then", x.source(0, 5), 1);
        due("dull still", x.count(9), 9);
        due("undo() of dull", x.undo(), 0);
        due("dull then", x.count(9), 1);
        due("undo() of none", x.undo(), -1);
        for (int n = 1; n <= 45; n++) {
            x.set(2, n);
        }
        due("acts, forty at most", x.count(12), 40);
        for (int n = 39; n >= 0; n--) {
            due("undo()", x.undo(), n);
            due("the hour then", x.count(6), n + 5);
        }
        due("the hour that stays", x.count(6), 5);
        due("undo() of none", x.undo(), -1);
        x.hours(24, 1);
        x.hours(24, 2);
        due("acts by hours", x.count(12), 40);
        for (int n = 0; n < 40; n++) {
            x.undo();
        }
        due("the hour behind eight hours", x.count(6), 13);
        x.trail(0, 1);
        x.note(0, 0, 0, true);
        due("trails and notes are no acts", x.count(12), 0);
        due("undo() behind them", x.undo(), -1);
        x.set(0, 3);
        x.undo();
        due("the trail stays", x.count(10), 1);
        due("the notes stay", x.count(11), 1);
    }

    /** Promise 13. */
    private static void farness() {
        SmellMap x = Check.city("l..;l..;s");
        int[] above = {2, 1, 2, 3, 2};
        int[] right = {2, 2, 1, 2, 3};
        int[] below = {2, 3, 2, 1, 2};
        int[] left = {2, 2, 3, 2, 1};
        for (int wind = 0; wind <= 4; wind++) {
            x.set(0, wind);
            due("far right by wind " + wind, x.far(0, 1), right[wind]);
            due("far left by wind " + wind, x.far(1, 0), left[wind]);
            due("far below by wind " + wind, x.far(0, 10), below[wind]);
            due("far above by wind " + wind, x.far(10, 0), above[wind]);
            due("far across by wind " + wind, x.far(0, 11), right[wind] + below[wind]);
            due("far to itself by wind " + wind, x.far(11, 11), 0);
        }
        SmellMap round = Check.city("l...;l.#.;l.##;s");
        due("far round a wall", round.far(12, 20), 10);
        due("far to a wall", round.far(12, 11), -1);
        due("far from a wall", round.far(22, 0), -1);
        SmellMap apart = Check.city("l.#.;s");
        due("far, never", apart.far(0, 2), -1);
        apart.set(0, 2);
        due("far, never with wind", apart.far(0, 2), -1);
        for (int odd : ODD) {
            due("far(0, " + odd + ")", apart.far(0, odd), -1);
            due("far(" + odd + ", 0)", apart.far(odd, 0), -1);
        }
        SmellMap choice = Check.city("l...;l.#.;l...;s");
        choice.set(0, 4);
        due("far the nearer way of two", choice.far(0, 22), 10);
        due("far back", choice.far(22, 0), 6);
    }

    /** Promise 14. */
    private static void smells() {
        SmellMap x = Check.city("l.....;sp9;sc4p1;sc2k3p2");
        int[] want = {27, 25, 23, 21, 19};
        int[] other = {2, 4, 6, 4, 2};
        for (int cell = 0; cell < 5; cell++) {
            due("smell(" + cell + ", 0), the greatest", x.smell(cell, 0), want[cell]);
            due("smell(" + cell + ", 3)", x.smell(cell, 3), other[cell]);
            due("smell(" + cell + ", 1), without", x.smell(cell, 1), 0);
        }
        x.set(1, 1);
        due("in rain", x.smell(1, 0), 12);
        x.open(0, false);
        due("in rain, the first one shut", x.smell(4, 0), 1);
        x.set(1, 0);
        due("the first one shut", x.smell(4, 0), 3);
        due("the first one shut, one on", x.smell(3, 0), 1);
        due("the first one shut, two on", x.smell(2, 0), 0);
        for (int odd : ODD) {
            due("smell(" + odd + ", 0)", x.smell(odd, 0), -1);
            due("smell(0, " + odd + ")", x.smell(0, odd), -1);
        }
        SmellMap apart = Check.city("l.#.;s");
        Check.law(apart, "y:50");
        due("where it comes", apart.smell(0, 0), 50);
        due("where it never comes", apart.smell(2, 0), 0);
        due("on a wall", apart.smell(1, 0), -1);
        Check.law(apart, "y:9999");
        apart.set(1, 1);
        due("half of what is held", apart.smell(0, 0), 49);
        SmellMap wind = Check.city("l...;s");
        wind.set(0, 2);
        due("carried by wind", wind.smell(2, 0), 13);
        wind.set(0, 4);
        due("against the wind", wind.smell(2, 0), 9);
    }

    private static void timesOfSmells() {
        SmellMap x = Check.city("l.;sf22u6");
        due("smell at 0", x.smell(0, 0), 15);
        x.set(2, 6);
        due("smell at 6", x.smell(0, 0), 0);
        x.set(2, 46);
        due("smell at 46", x.smell(0, 0), 15);
        x.open(0, false);
        due("smell at 46, shut", x.smell(0, 0), 0);
    }

    /** Promise 15. */
    private static void breaths() {
        SmellMap x = Check.city(TOWN);
        int[][] want = {{0, 1}, {1, 3}, {2, 3}, {10, 1}, {12, 3}, {11, -1}, {13, -1}, {-1, -1}, {20, -1},
            {Integer.MAX_VALUE, -1}};
        for (int[] w : want) {
            due("breath(" + w[0] + ")", x.breath(w[0]), w[1]);
        }
        x.set(3, 3);
        due("breath(12), no less than dull", x.breath(12), 3);
        x.set(3, 4);
        due("breath(12), less than dull", x.breath(12), 2);
        due("breath(2) then", x.breath(2), 3);
        due("breath(1) then", x.breath(1), 1);
        x.set(3, 0);
        due("breath(0), dull 0: 0 is not smelled", x.breath(0), 1);
        due("breath(1), dull 0", x.breath(1), 3);
        x.set(3, 4);
        x.set(1, 1);
        due("breath(0) in rain, 4", x.breath(0), 1);
        due("breath(1) in rain, 3", x.breath(1), 0);
        x.set(1, 0);
        x.set(0, 4);
        due("breath(1), kind 0 against the wind", x.breath(1), 1);
        due("breath(2), kind 0 against the wind", x.breath(2), 2);
        SmellMap all = Check.city("l.;s;sk1;sk2;sk3;sk4");
        due("all kinds", all.breath(0), 31);
    }

    /** Promise 16. */
    private static void strongest() {
        SmellMap x = Check.city(TOWN);
        due("strongest(12)", x.strongest(12), 1);
        due("strongest(0)", x.strongest(0), 0);
        due("strongest of 1", Check.city("l..;sp1;sk1").strongest(0), 1);
        due("strongest, 1 alone", Check.city("l..;sp1").strongest(1), 0);
        SmellMap wind = Check.city("l...;sp3;sk1c2p3");
        due("strongest(1), no wind", wind.strongest(1), 0);
        wind.set(0, 4);
        due("strongest(1), wind 4", wind.strongest(1), 1);
        due("strongest(2)", x.strongest(2), 0);
        due("strongest(11)", x.strongest(11), -1);
        for (int odd : ODD) {
            due("strongest(" + odd + ")", x.strongest(odd), -1);
        }
        x.set(3, 6);
        due("strongest(12), dull 6", x.strongest(12), 1);
        due("strongest(2), dull 6", x.strongest(2), -1);
        due("strongest, the lowest of two", Check.city("l..;sk3;sk1").strongest(1), 1);
        due("strongest, the greater one", Check.city("l..;sk3p6;sk1").strongest(1), 3);
        due("strongest of none", Check.city("l.#.;s;dn0").strongest(2), -1);
    }

    /** Promises 17 and 18. */
    private static void trails() {
        SmellMap x = Check.city(TOWN);
        due("wipe() of none", x.wipe(), false);
        int[][] wrong = {{5, 0}, {-1, 0}, {0, 32}, {0, -1}, {Integer.MAX_VALUE, 0}, {0, Integer.MIN_VALUE}};
        for (int[] w : wrong) {
            due("trail(" + w[0] + ", " + w[1] + ")", x.trail(w[0], w[1]), -1);
        }
        due("count(10) behind those", x.count(10), 0);
        due("trail(4, 31)", x.trail(4, 31), 1);
        due("wipe()", x.wipe(), true);
        due("wipe() again", x.wipe(), false);
        due("where(0) wiped", x.where(0), 47);
        for (int n = 1; n <= 12; n++) {
            due("trail(0, 3)", x.trail(0, 3), n);
        }
        due("trail, the thirteenth", x.trail(0, 1), -1);
        due("where(0) of twelve", x.where(0), 38);
        due("count(10)", x.count(10), 12);
    }

    /** Promise 19. */
    private static void wheres() {
        SmellMap x = Check.city(TOWN);
        due("where(0) of no trail", x.where(0), 47);
        due("where(1) of no trail", x.where(1), 47);
        x.trail(4, 1);
        due("where(0) to the left", x.where(0), 11);
        due("where(1) to the left", x.where(1), 9);
        x.set(3, 4);
        due("where(0), dull 4", x.where(0), 15);
        due("where(1), dull 4", x.where(1), 11);
        x.trail(2, 3);
        due("where(0), and right", x.where(0), 4);
        due("where(1), and right", x.where(1), 4);
        x.trail(3, 2);
        due("where(0), and down", x.where(0), 4);
        due("where(1), and down", x.where(1), 32);
        x.trail(1, 0);
        due("where(0), impossible", x.where(0), 0);
        due("where(1), impossible", x.where(1), 0);
        x.wipe();
        x.trail(0, 1);
        x.set(0, 4);
        due("where(0) against the wind", x.where(0), 11);
        x.set(0, 0);
        due("where(0) without wind", x.where(0), 11);
        x.set(3, 1);
        due("where(0), dull 1", x.where(0), 9);
        x.set(0, 4);
        due("where(0), dull 1 and wind 4", x.where(0), 8);
        due("where(1), dull 1 and wind 4", x.where(1), 8);
        due("where(2)", x.where(2), -1);
        due("where(-1)", x.where(-1), -1);
    }

    /** Promise 20. */
    private static void doors() {
        SmellMap x = Check.city("l...;sp1;sc2p1k1");
        due("door(0) by both", x.door(0), 3);
        due("door(1) by both", x.door(1), 3);
        x.set(3, 2);
        due("door(0) by the first", x.door(0), 1);
        due("door(2) by the second", x.door(2), 2);
        due("door(1), breath 0 is none", x.door(1), -1);
        x.open(0, false);
        due("door(0), shut ones can be opened", x.door(0), 1);
        x.set(0, 2);
        due("door(1) by the wind", x.door(1), -1);
        due("door(2) by the wind", x.door(2), 2);
        x.set(3, 1);
        due("door(0) by the wind, dull 1", x.door(0), -1);
        due("door(2) by the wind, dull 1", x.door(2), 2);
        SmellMap alike = Check.city("l..;sp1;sp1;sc1k1p1;dn2");
        due("door(0), the least", alike.door(0), 1);
        due("door(1)", alike.door(1), 4);
        SmellMap few = Check.city("l...;sp2;sc2k1p2;sc1k2p1f1u2;dn3");
        due("door(1) by two, at 0", few.door(1), 3);
        few.set(2, 1);
        due("door(1) by one, at 1", few.door(1), 4);
        for (int odd : ODD) {
            due("door(" + odd + ")", few.door(odd), -1);
        }
        SmellMap town = Check.city(TOWN);
        due("door(0) of the town", town.door(0), -1);
        due("door(11) of the town", town.door(11), -1);
        due("door of one street", Check.city("l.;s").door(0), 1);
    }

    /** Promise 21. */
    private static void mosts() {
        SmellMap few = Check.city("l...;sp2;sc2k1p2;sc1k2p1f1u2;dn3");
        due("most(0) at 0", few.most(0), 3);
        due("most(1) at 0", few.most(1), 3);
        few.set(2, 1);
        due("most(0) at 1", few.most(0), 3);
        few.open(0, false);
        due("most(0), shut ones can be opened", few.most(0), 3);
        due("most(2)", few.most(2), -1);
        due("most(-1)", few.most(-1), -1);
        SmellMap none = Check.city("l..;s");
        due("most(0), all alike", none.most(0), 0);
        due("most(1), all alike", none.most(1), 1);
        SmellMap blown = Check.city("l...;sp1;sc2k1p1;dn2");
        due("most(0) without wind", blown.most(0), 3);
        due("most(1) without wind", blown.most(1), 3);
        blown.set(0, 2);
        due("most(0) by the wind", blown.most(0), 1);
        blown.set(3, 1);
        due("most(1) by the wind, dull 1", blown.most(1), 2);
        due("most(0) by the wind, dull 1", blown.most(0), 2);
        SmellMap later = Check.city("l..;s;sk1;sk2p1;dn2");
        due("most(0), the third one", later.most(0), 4);
        due("most(1), the third one", later.most(1), 2);
        SmellMap fewer = Check.city("l....;sp1;sc1k1p1;sk2p9f3u4;dn3");
        due("most(1) of two alone", fewer.most(1), 3);
        due("most(0) of two alone", fewer.most(0), 3);
    }

    /** Promise 22. */
    private static void silents() {
        SmellMap x = Check.city(TOWN);
        due("silent()", x.silent(), 0);
        x.set(3, 6);
        due("silent(), dull 6", x.silent(), 4);
        x.open(1, false);
        due("silent(), one shut", x.silent(), 36);
        x.open(0, false);
        due("silent(), both shut", x.silent(), 47);
        SmellMap blown = Check.city("l...;sp1");
        due("silent() without wind", blown.silent(), 4);
        blown.set(0, 2);
        due("silent() by the wind", blown.silent(), 0);
        due("silent() behind a wall", Check.city("l.#.;s").silent(), 4);
    }

    /** Promise 23. */
    private static void unlikes() {
        SmellMap x = Check.city(TOWN);
        due("unlike(0, 4)", x.unlike(0, 4), 1);
        due("unlike(4, 0)", x.unlike(4, 0), 1);
        for (int wind = 0; wind < 5; wind++) {
            due("unlike to itself", x.unlike(wind, wind), 0);
        }
        x.set(0, 3);
        due("unlike(0, 4), whatever blows", x.unlike(0, 4), 1);
        due("the wind still", x.count(7), 3);
        due("far by the wind that is", x.far(0, 10), 1);
        Check.law(x, "y:w");
        due("unlike(0, 1) by a law of w", x.unlike(0, 1), 47);
        due("unlike(1, 2) by a law of w", x.unlike(1, 2), 0);
        int[][] wrong = {{5, 0}, {0, 5}, {-1, 0}, {0, -1}, {Integer.MAX_VALUE, 0}, {0, Integer.MIN_VALUE}};
        for (int[] w : wrong) {
            due("unlike(" + w[0] + ", " + w[1] + ")", x.unlike(w[0], w[1]), -1);
        }
    }

    /** Promise 24. */
    private static void forgeries() {
        SmellMap x = Check.city(TOWN);
        due("forged(10, 2)", x.forged(10, 2), 47);
        due("forged(10, 0)", x.forged(10, 0), 0);
        due("forged(10, 1)", x.forged(10, 1), 9);
        due("there is none more", x.breath(10), 1);
        x.set(3, 10);
        due("forged(10, 2), dull 10", x.forged(10, 2), 11);
        x.set(0, 1);
        due("forged(10, 2), wind 1", x.forged(10, 2), 15);
        x.set(0, 0);
        x.set(1, 1);
        due("forged(10, 2), in rain", x.forged(10, 2), 0);
        x.set(1, 0);
        x.open(0, false);
        x.open(1, false);
        due("forged(12, 0), all shut", x.forged(12, 0), 38);
        Check.law(x, "y:k*10");
        due("forged by a law", x.forged(0, 1), 47);
        due("forged by a law, kind 0", x.forged(0, 0), 0);
        for (int odd : ODD) {
            due("forged(" + odd + ", 0)", x.forged(odd, 0), -1);
            due("forged(0, " + odd + ")", x.forged(0, odd), -1);
        }
        due("forged(11, 0)", x.forged(11, 0), -1);
        SmellMap six = Check.city("l.#.;s;s;s;s;s;sk4");
        due("forged, a seventh", six.forged(2, 1), 4);
        due("forged, a seventh beside", six.forged(0, 4), 0);
    }

    /** Promise 25. */
    private static void follows() {
        SmellMap x = Check.city(TOWN);
        due("follow(12, 0, 0)", x.follow(12, 0, 0), 0);
        due("follow(12, 0, 1)", x.follow(12, 0, 1), 3);
        due("follow(1, 1, 0)", x.follow(1, 1, 0), 12);
        due("follow(1, 1, 1)", x.follow(1, 1, 1), 2);
        due("follow(10, 1, 0), nothing there", x.follow(10, 1, 0), 10);
        due("follow(10, 1, 1), nothing there", x.follow(10, 1, 1), 0);
        due("follow(10, 4, 0), no such", x.follow(10, 4, 0), 10);
        due("follow(0, 0, 2)", x.follow(0, 0, 2), -1);
        due("follow(0, 0, -1)", x.follow(0, 0, -1), -1);
        due("follow(11, 0, 0)", x.follow(11, 0, 0), -1);
        for (int odd : ODD) {
            due("follow(" + odd + ", 0, 0)", x.follow(odd, 0, 0), -1);
            due("follow(0, " + odd + ", 0)", x.follow(0, odd, 0), -1);
        }
        due("follow, right before left", Check.city("l...;sp2;sc2p2").follow(1, 0, 0), 2);
        due("follow, above before below", Check.city("l.;l.;l.;sp2;sr2p2").follow(10, 0, 0), 0);
        due("follow, the greater one", Check.city("l.;l.;l.;sp2;sr2p3").follow(10, 0, 0), 20);
        due("follow, below before left", Check.city("l#..;l..#;l#.#;sr2c1p2;sr1p2").follow(11, 0, 0), 21);
        due("follow, above before right", Check.city("l.#;l..;sp2;sr1c1p2").follow(10, 0, 0), 0);
        due("follow, right before below", Check.city("l..;l.#;sc1p2;sr1p2").follow(0, 0, 0), 1);
        SmellMap flat = Check.city("l...;sp9");
        flat.set(0, 2);
        flat.set(1, 1);
        due("follow(1, 0, 0), as much there", flat.follow(1, 0, 0), 1);
        due("follow(2, 0, 0) up to there", flat.follow(2, 0, 0), 1);
        due("follow(2, 0, 1) up to there", flat.follow(2, 0, 1), 1);
        Check.law(flat, "y:f+f");
        due("follow away", flat.follow(0, 0, 0), 2);
        due("follow away, steps", flat.follow(0, 0, 1), 2);
    }

    /** Promise 26. */
    private static void leds() {
        SmellMap x = Check.city(TOWN);
        due("led(0)", x.led(0), 47);
        due("led(1)", x.led(1), 39);
        x.set(0, 4);
        due("led(1), wind 4", x.led(1), 47);
        x.set(1, 1);
        x.set(0, 2);
        due("led(1), wind 2 and rain", x.led(1), 38);
        due("led(2)", x.led(2), 0);
        due("led(5)", x.led(5), -1);
        due("led(-1)", x.led(-1), -1);
        due("led(max)", x.led(Integer.MAX_VALUE), -1);
        x.open(1, false);
        due("led(1), shut", x.led(1), 0);
        SmellMap out = Check.city("l....;sp2");
        due("led(0) without wind", out.led(0), 15);
        out.set(0, 4);
        due("led(0) against the wind", out.led(0), 7);
        SmellMap flat = Check.city("l...;sp9");
        flat.set(0, 2);
        flat.set(1, 1);
        due("led(0), stuck on the way", flat.led(0), 1);
        SmellMap later = Check.city("l...;sp2;sc2f5u6");
        due("led(0) by the one whose hour it is", later.led(0), 7);
        Check.law(later, "y:10+f");
        due("led(0) to where none smells now", later.led(0), 0);
        later.set(2, 5);
        due("led(0) by both", later.led(0), 7);
    }

    /** Promise 27. */
    private static void sures() {
        SmellMap x = Check.city(ROW);
        int[] steps = {4, 5, 6, 5, 4};
        int[] first = {4, 4, 2, 2, 2};
        for (int cell = 0; cell < 5; cell++) {
            due("sure(" + cell + ", 0) in a row", x.sure(cell, 0), steps[cell]);
            due("sure(" + cell + ", 1) in a row", x.sure(cell, 1), first[cell]);
        }
        due("sure(0, 2)", x.sure(0, 2), -1);
        due("sure(0, -1)", x.sure(0, -1), -1);
        for (int odd : ODD) {
            due("sure(" + odd + ", 0)", x.sure(odd, 0), -1);
        }
        x.trail(0, 0);
        due("sure(0, 0), nobody", x.sure(0, 0), -1);
        SmellMap breathed = Check.city("l.....;sp2");
        due("sure(4, 1), before a breath", breathed.sure(4, 1), 2);
        breathed.trail(0, 0);
        due("where(1), 3 or 4", breathed.where(1), 24);
        breathed.set(0, 4);
        due("sure(4, 0), 2 to 4 by wind 4", breathed.sure(4, 0), 2);
        breathed.set(0, 0);
        due("sure(4, 0), 3 or 4", breathed.sure(4, 0), 1);
        due("sure(4, 1), 3 or 4", breathed.sure(4, 1), 2);
        due("sure(0, 0), 3 or 4", breathed.sure(0, 0), 4);
        breathed.trail(2, 0);
        due("sure(4, 0), surely there", breathed.sure(4, 0), 0);
        due("sure(4, 1), surely there", breathed.sure(4, 1), 0);
        due("sure(3, 0), one back", breathed.sure(3, 0), 1);
        due("sure(3, 1), one back", breathed.sure(3, 1), 4);
        SmellMap one = Check.city("l.;s");
        due("sure(0, 0), it is", one.sure(0, 0), 0);
        due("sure(0, 1), it is", one.sure(0, 1), 0);
        SmellMap apart = Check.city("l.#.;s");
        due("sure(0, 0), it can't be", apart.sure(0, 0), -1);
        apart.trail(0, 1);
        due("sure(0, 0), breathed", apart.sure(0, 0), 0);
        due("sure(2, 0), it can't be", apart.sure(2, 0), -1);
        SmellMap thirteen = Check.city("l.....;l.....;l...##;s");
        due("sure(0, 0) of thirteen", thirteen.sure(0, 0), -1000000);
        due("sure(0, 1) of thirteen", thirteen.sure(0, 1), -1000000);
        due("sure(23, 0) of thirteen, a wall", thirteen.sure(23, 0), -1);
        due("sure(0, 2) of thirteen", thirteen.sure(0, 2), -1);
        SmellMap twelve = Check.city("l.....;l.....;l..###;s");
        due("sure(0, 0) of twelve", twelve.sure(0, 0), 6);
        due("sure(0, 1) of twelve", twelve.sure(0, 1), 1);
        due("sure(4, 0) of twelve", twelve.sure(4, 0), 6);
        SmellMap square = Check.city("l..;l..;s");
        due("sure(0, 0) of a square", square.sure(0, 0), 2);
        due("sure(0, 1) of a square", square.sure(0, 1), 1);
        due("sure(11, 1) of a square", square.sure(11, 1), 2);
        due("sure(10, 1) of a square", square.sure(10, 1), 3);
    }

    /** Promise 28. */
    private static void noted() {
        SmellMap x = Check.city(TOWN);
        int[][] wrong = {{-1, 0, 0}, {31, 0, 0}, {0, 0, -1}, {0, 0, 10}, {0, 11, 0}, {0, 13, 0}, {0, -1, 0},
            {Integer.MAX_VALUE, 0, 0}, {0, Integer.MAX_VALUE, 0}, {0, 0, Integer.MIN_VALUE}};
        for (int[] w : wrong) {
            due("note(" + w[0] + ", " + w[1] + ", " + w[2] + ")", x.note(w[0], w[1], w[2], true), -1);
        }
        due("count(11) behind those", x.count(11), 0);
        due("note(0, 0, 9, true)", x.note(0, 0, 9, true), 1);
        due("note(30, 12, 0, false)", x.note(30, 12, 0, false), 2);
        for (int n = 3; n <= 12; n++) {
            due("note", x.note(n, 0, 9, true), n);
        }
        due("note, the thirteenth", x.note(1, 0, 0, true), -1);
        due("count(11)", x.count(11), 12);
        due("thief(1)", x.thief(1), 47);
        due("thief(30)", x.thief(30), 15);
    }

    /** Promise 29. */
    private static void thieves() {
        SmellMap x = Check.city(TOWN);
        due("thief(0) of no notes", x.thief(0), 47);
        due("thief(30) of no notes", x.thief(30), 47);
        x.set(0, 2);
        x.note(5, 0, 1, true);
        due("thief(5)", x.thief(5), 11);
        due("thief(4)", x.thief(4), 15);
        due("thief(3)", x.thief(3), 47);
        due("thief(6)", x.thief(6), 15);
        due("thief(7)", x.thief(7), 47);
        x.note(5, 0, 0, false);
        due("thief(5), not there", x.thief(5), 10);
        due("thief(6), not there", x.thief(6), 15);
        x.note(6, 10, 0, true);
        due("thief(6), there", x.thief(6), 8);
        due("thief(5), there later", x.thief(5), 8);
        due("thief(4), there later", x.thief(4), 9);
        due("thief(7), there before", x.thief(7), 9);
        due("thief(31)", x.thief(31), -1);
        due("thief(-1)", x.thief(-1), -1);
        due("thief(max)", x.thief(Integer.MAX_VALUE), -1);
        x.note(7, 12, 0, true);
        due("thief(0), it can't be", x.thief(0), 0);
        due("thief(7), it can't be", x.thief(7), 0);
        due("thief(30), it can't be", x.thief(30), 0);
        SmellMap corner = Check.city(TOWN);
        corner.note(0, 0, 0, true);
        due("thief(0), at the corner", corner.thief(0), 1);
        due("thief(1), from the corner", corner.thief(1), 11);
        SmellMap apart = Check.city("l.#.;s");
        apart.note(4, 0, 9, false);
        due("thief(0), on the other side", apart.thief(0), 4);
        SmellMap away = Check.city(ROW);
        away.note(0, 0, 1, false);
        due("thief(0), not within one step", away.thief(0), 28);
        due("thief(1) then", away.thief(1), 30);
        due("thief(2) then", away.thief(2), 31);
        away.note(30, 4, 0, true);
        due("thief(30), the last", away.thief(30), 16);
        due("thief(29), before it", away.thief(29), 24);
        due("thief(28), before that", away.thief(28), 28);
        away.note(10, 0, 2, true);
        due("thief(10), within two steps", away.thief(10), 7);
    }

    /** Promise 30. */
    private static void founds() {
        SmellMap x = Check.city(TOWN);
        due("found(0) of no notes", x.found(0), -1);
        due("found(1) of no notes", x.found(1), -1);
        x.note(5, 0, 1, true);
        x.note(5, 0, 0, false);
        x.note(6, 10, 0, true);
        due("found(0)", x.found(0), 5);
        due("found(1)", x.found(1), 10);
        due("found(2)", x.found(2), -1);
        due("found(-1)", x.found(-1), -1);
        x.note(7, 12, 0, true);
        due("found(0), it can't be", x.found(0), -1);
        due("found(1), it can't be", x.found(1), -1);
        SmellMap last = Check.city(ROW);
        last.note(30, 4, 0, true);
        due("found(0), the last", last.found(0), 30);
        due("found(1), the last", last.found(1), 4);
        due("found(0) of one street", Check.city("l#;l.;sr1").found(0), 0);
        due("found(1) of one street", Check.city("l#;l.;sr1").found(1), 10);
    }

    /** Promises 31 and 32. */
    private static void images() {
        SmellMap x = Check.city(TOWN);
        due("back() of none", x.back(), -1);
        x.set(2, 30);
        x.set(0, 1);
        x.set(1, 1);
        x.set(3, 7);
        x.open(1, false);
        due("image()", x.image(), 30);
        due("acts stay", x.count(12), 5);
        x.set(2, 31);
        x.set(0, 0);
        x.set(1, 0);
        x.set(3, 0);
        x.open(1, true);
        x.open(0, false);
        x.trail(0, 1);
        x.note(0, 0, 0, true);
        Check.law(x, "y:20");
        due("back()", x.back(), 30);
        int[] want = {2, 3, 5, 2, 1, 0, 30, 1, 1, 7, 1, 1, 0};
        for (int what = 0; what < want.length; what++) {
            due("count(" + what + ") behind back()", x.count(what), want[what]);
        }
        due("source(0, 5) behind back()", x.source(0, 5), 1);
        due("source(1, 5) behind back()", x.source(1, 5), 0);
        due("the law holds still", x.smell(0, 0), 10);
        due("undo() behind back()", x.undo(), -1);
        x.set(2, 5);
        due("undo() of an act behind back()", x.undo(), 0);
        x.set(2, 6);
        due("back() again", x.back(), 30);
        x.set(2, 8);
        due("image() instead", x.image(), 8);
        x.set(2, 9);
        due("back() to it", x.back(), 8);
        Check.put(x, "l.;");
        x.text(0);
        due("back() behind a text with a fault", x.back(), 8);
        Check.put(x, TOWN);
        x.text(0);
        due("back() in another city", x.back(), -1);
        due("image() in another city", x.image(), 0);
        due("back() then", x.back(), 0);
    }

    /** Promise 33. */
    private static void counts() {
        SmellMap x = Check.city("l.....;l..#..;l.....;s;sk1;sk2;dn12");
        Check.law(x, "y:1");
        x.set(2, 100);
        x.set(0, 3);
        x.set(1, 1);
        x.trail(1, 1);
        x.trail(1, 1);
        x.note(1, 1, 1, true);
        x.feed(0x01020304, 0, 0, 0, 0);
        x.end(3);
        int[] want = {3, 5, 14, 3, 1, 3, 100, 3, 1, 12, 2, 1, 3};
        for (int what = 0; what < want.length; what++) {
            due("count(" + what + ")", x.count(what), want[what]);
        }
        for (int odd : new int[] {-1, 13, 14, Integer.MAX_VALUE, Integer.MIN_VALUE}) {
            due("count(" + odd + ")", x.count(odd), -1000000);
        }
        due("NONE", SmellMap.NONE, -1);
        due("HIDDEN", SmellMap.HIDDEN, -1000000);
    }
}
