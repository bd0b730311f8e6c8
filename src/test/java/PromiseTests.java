import java.util.NoSuchElementException;

/** For each promise of the document: ordinary answers, the edges that it names, and wrong arguments. */
public final class PromiseTests {
    private static final int NONE = WallHarbour.NONE;
    private static final int NOTHING = -1000;
    private static final Class<IllegalArgumentException> ILLEGAL = IllegalArgumentException.class;
    private static final Class<IndexOutOfBoundsException> INDEX = IndexOutOfBoundsException.class;
    private static final Class<UnsupportedOperationException> UNSUPPORTED = UnsupportedOperationException.class;
    private static final Class<NoSuchElementException> NO_SUCH = NoSuchElementException.class;
    private static final int NOON = 720;

    public static void main(String[] args) {
        aNewObject();
        feed();
        end();
        harbour();
        harbourSetsAll();
        law();
        lawConditions();
        harbourFaults();
        harbourFaultsOfOrder();
        lawFaults();
        now();
        body();
        spot();
        seen();
        seenOnTheWallsEnds();
        hider();
        hidersEnds();
        charge();
        charges();
        tide();
        trace();
        draw();
        undo();
        which();
        slips();
        places();
        when();
        paces();
        mark();
        setting();
        way();
        wayAmongBodies();
        met();
        imageAndBack();
        count();
        readmesExample();
        Check.finish("PromiseTests");
    }

    private static void aNewObject() {
        WallHarbour x = new WallHarbour();
        int[] due = {0, 0, 0, 0, NONE, 0, 0, 0, 0, 300, 0, 10, -20, 20, 20, 0};
        for (int what = 0; what < due.length; what++) {
            Check.same("new count " + what, x.count(what), due[what]);
        }
        Check.same("new fault", x.fault(), NONE);
        Check.same("new back", x.back(), false);
        Check.same("new undo", x.undo(), NONE);
        Check.same("new slips", x.slips(), 0);
        Check.same("new tape", x.end(1), false);
        Check.same("NONE", NONE, -1);
        for (int hour = 0; hour < 24; hour++) {
            Check.same("new tide", x.tide(1, 60 * hour), 0);
        }
        Check.fails("new body", INDEX, () -> x.body(0, 0));
        Check.fails("new ship", INDEX, () -> x.body(10, 0));
    }

    private static void feed() {
        WallHarbour x = new WallHarbour();
        Check.same("feed 1", x.feed(0x666f6720, 0x32312020, 0x20202020, 0x20202020, 0x20202020), 20);
        Check.same("read", x.harbour(), 1);
        Check.same("highest byte first", x.count(9), 21);
        for (int i = 1; i <= 20; i++) {
            Check.same("feed", x.feed(0x20202020, 0x20202020, 0x20202020, 0x20202020, 0x20202020), 20 * i);
        }
        Check.same("feed too much", x.feed(1, 1, 1, 1, 1), NONE);
        Check.same("none came", x.end(401), false);
        Check.same("end", x.end(381), true);
        Check.same("feed a byte too much", x.feed(1, 1, 1, 1, 1), NONE);
        Check.same("none came", x.end(382), false);
        Check.same("end", x.end(380), true);
        Check.same("feed just enough", x.feed(-1, 1, 1, 1, 1), 400);
        Check.fails("a byte of 255", ILLEGAL, x::harbour);
        Check.same("behind 380 blanks", x.fault(), 380);
        Check.same("feed", x.feed(0x20202020, 0x20202020, 0x20202020, 0x20202020, 0x200000ff), 20);
        Check.fails("a byte of 0", ILLEGAL, x::harbour);
        Check.same("fault", x.fault(), 17);
    }

    private static void end() {
        WallHarbour x = new WallHarbour();
        Check.same("end of nothing", x.end(0), true);
        Check.same("end behind it", x.end(1), false);
        Texts.feed(x, "fog 123");
        Check.same("end below 0", x.end(-1), false);
        Check.same("end far below 0", x.end(Integer.MIN_VALUE), false);
        Check.same("end behind it", x.end(8), false);
        Check.same("end at it", x.end(7), true);
        Check.same("end ahead", x.end(5), true);
        Check.same("nothing comes back", x.end(6), false);
        Check.same("harbour", x.harbour(), 1);
        Check.same("the first five alone", x.count(9), 1);
        Texts.feed(x, "fog 12");
        Check.same("feed behind an end", x.feed(0x33202020, 0x20202020, 0x20202020, 0x20202020, 0x20202020), 26);
        Check.same("harbour", x.harbour(), 2);
        Check.same("joined", x.count(9), 123);
    }

    private static void harbour() {
        WallHarbour x = new WallHarbour();
        Check.same("an empty text", Texts.harbour(x, ""), 1);
        Check.same("blanks alone", Texts.harbour(x, "    "), 2);
        Check.same("no fault", x.fault(), NONE);
        Check.same("a text", Texts.harbour(x, "fog 5"), 3);
        Check.same("used up", x.end(1), false);
        Texts.feed(x, "fog 6; moon 3; fog 0");
        Check.fails("a wrong text", ILLEGAL, x::harbour);
        Check.same("used up", x.end(1), false);
        Check.same("nothing stays: fog", x.count(9), 5);
        Check.same("nothing stays: moon", x.count(10), 0);
        Check.same("nothing stays: texts", x.count(3), 3);
        for (int i = 4; i <= 10; i++) {
            Check.same("texts", Texts.harbour(x, "moon " + i), i);
        }
        Texts.feed(x, "moon 11");
        Check.fails("an 11th text", UNSUPPORTED, x::harbour);
        Check.same("moon as it was", x.count(10), 10);
        Check.same("used up", x.end(1), false);
        Texts.feed(x, "moon 12");
        Check.fails("an 11th text that is wrong", ILLEGAL, x::harbour);
        Check.same("fault", x.fault(), 5);
        Check.same("texts", x.count(3), 10);
    }

    private static void harbourSetsAll() {
        WallHarbour x = Texts.with("thing west 99 300 20 0 99 from 0 to 999;thing 99 1 0 99 99 from 999 to 999;"
                + "ship west 999 300 20 0 99 pace west 9 from 0 to 1439; ship 999 1 0 7 7 pace 9 from 1439 to 1439");
        String[] due = {"-99 300 20 0 99 0 999", "99 1 0 99 99 999 999",
            "-999 300 20 0 99 0 1439", "999 1 0 7 7 1439 1439"};
        int[] bodies = {0, 1, 10, 11};
        for (int i = 0; i < bodies.length; i++) {
            StringBuilder got = new StringBuilder();
            for (int what = 0; what < 7; what++) {
                got.append(what == 0 ? "" : " ").append(x.body(bodies[i], what));
            }
            Check.same("body " + bodies[i], got.toString(), due[i]);
        }
        Texts.harbour(x, "  hole west 50 1 ;hole50 50;wall 50 from west 99 to west 99 top 0; cloud 0 23 5;fog300;tide11low9"
                + ";tide 0 009;moon 011 ");
        int[] counts = {2, 2, 2, 2, NONE, 0, 0, 0, 1 << 23 | 1 << 5 | 1, 300, 11, 50, -99, -99, 0, 0};
        for (int what = 0; what < counts.length; what++) {
            Check.same("count " + what, x.count(what), counts[what]);
        }
        Check.same("tide of 11", x.tide(0, 11 * 60), -9);
        Check.same("tide of 0", x.tide(0, 0), 9);
        Texts.harbour(x, "cloud 7; wall 1 from west 0 to 99 top 99");
        Check.same("clouds in place of those before", x.count(8), 1 << 7);
        Check.same("deep", x.count(11), 1);
        Check.same("left", x.count(12), 0);
        Check.same("right", x.count(13), 99);
        Check.same("top", x.count(14), 99);
        Texts.harbour(x, "cloud 8 ; clear");
        Check.same("clear", x.count(8), 0);
        Texts.harbour(x, "tide 3 4;tide 3 low 0;moon 0");
        Check.same("the later one holds", x.tide(0, 180), 0);
        Check.same("the others stay", x.tide(0, 660), -9);
    }

    private static void law() {
        WallHarbour x = Texts.with("thing 1 10 2 3 4 from 0 to 999");
        Check.same("no law", x.count(4), NONE);
        Check.same("no charge", x.charge(0), 0);
        Check.same("an empty law", Texts.law(x, ""), 0);
        Check.same("lines", x.count(4), 0);
        Check.same("a law", Texts.law(x, " charge 12 ; charge 030"), 2);
        Check.same("used up", x.end(1), false);
        Check.same("lines", x.count(4), 2);
        Check.same("charge", x.charge(0), 42);
        Texts.feed(x, "charge 1; charge 2; charge");
        Check.fails("a wrong law", ILLEGAL, x::law);
        Check.same("used up", x.end(1), false);
        Check.same("fault", x.fault(), 26);
        Check.same("the one before stays", x.charge(0), 42);
        Check.same("its lines too", x.count(4), 2);
        Check.same("in place of the one before", Texts.law(x, "charge 999"), 1);
        Check.same("charge", x.charge(0), 999);
        Check.same("no fault", x.fault(), NONE);
        Check.same("blanks alone", Texts.law(x, "   "), 0);
        Check.same("charge", x.charge(0), 0);
        StringBuilder twelve = new StringBuilder("charge 1");
        for (int i = 2; i <= 12; i++) {
            twelve.append(";charge ").append(i);
        }
        Check.same("twelve lines", Texts.law(x, twelve.toString()), 12);
        Check.same("their sum", x.charge(0), 78);
        Check.same("texts of the harbour alone", x.count(3), 1);
    }

    private static void lawConditions() {
        WallHarbour x = Texts.with("thing 1 10 2 3 7 from 0 to 999; thing 1 30 9 0 50 from 0 to 999;"
                + "ship 0 20 5 1 3 pace 0 from 0 to 1439; hole 1 5; tide 4 5");
        x.now(40, 1000);
        String[] holds = {"far<11", "far > 9", "9 + 2 > far", "wide+tall+far<17", "wide+tall+far>15", "tall<5", "tall>3",
            "hour>15", "hour<17", "day<41", "day>39", "body<1", "0+0+0+1>body", "seen", "seen and not ship",
            "not ship", "not not seen", "( seen)", "ship or seen", "ship and ship or seen", "seen or ship and ship",
            "( ship or seen ) and seen", "not ( ship and seen)", "not far<5", "not ship and seen", "not ship or ship",
            "999>998", "not not not not not not seen", "((((((seen))))))", "not(not(not(seen or ship)or ship))or seen"};
        for (String condition : holds) {
            Texts.law(x, "charge 7 if " + condition);
            Check.same(condition, x.charge(0), 7);
        }
        String[] fails = {"far<10", "far>10", "wide>2", "tall>4", "hour<16", "day<40", "body>0", "not seen", "ship",
            "seen and ship", "not ( seen or ship )", "(seen or ship) and ship", "not seen or ship", "1+1>1+1",
            "not(ship)and ship", "ship or ship and seen"};
        for (String condition : fails) {
            Texts.law(x, "charge 7 if " + condition);
            Check.same(condition, x.charge(0), 0);
        }
        Texts.law(x, "charge 1 if ship; charge 10 if body > 9; charge 100 if body < 11;charge 2 if tall>1;charge 4 if tall<3");
        Check.same("a ship", x.charge(10), 117);
        Check.same("a thing", x.charge(1), 102);
        Texts.law(x, "charge 1 if seen");
        Check.same("a tip too high", x.charge(1), 0);
    }

    private static void harbourFaults() {
        Object[][] faults = {
            {"thing 100 1 1 1 1 from 1 to 1", 6}, {"thing west 100 1 1 1 1 from 1 to 1", 11},
            {"thing 1 0 1 1 1 from 1 to 1", 8}, {"thing 1 301 1 1 1 from 1 to 1", 8},
            {"thing 1 west 1 1 1 1 from 1 to 1", 8}, {"thing 1 1 21 1 1 from 1 to 1", 10},
            {"thing 1 1 1 100 100 from 1 to 1", 12}, {"thing 1 1 1 5 4 from 1 to 1", 14},
            {"thing 1 1 1 1 100 from 1 to 1", 14}, {"thing 1 1 1 1 1 to 1", 16}, {"thing 1 1 1 1 1 from to 1", 21},
            {"thing 1 1 1 1 1 from 1000 to 1", 21}, {"thing 1 1 1 1 1 from 5 to 4", 26},
            {"thing 1 1 1 1 1 from 5 to 1000", 26}, {"thing 1 1 1 1 1 from 5 4", 23}, {"thing 1 1 1 1 1 from 5 to 6 7", 28},
            {"ship 1000 1 1 1 1 pace 1 from 1 to 1", 5}, {"ship 1 1 1 1 1 pace 10 from 1 to 1", 20},
            {"ship 1 1 1 1 1 pace west 10 from 1 to 1", 25}, {"ship 1 1 1 1 1 from 1 to 1", 15},
            {"ship 1 1 1 1 1 pace 1 from 1440 to 1440", 27}, {"ship 1 1 1 1 1 pace 1 from 9 to 8", 32},
            {"ship 1 1 1 1 1 pace 1 from 00009 to 9", 27}, {"ship 1 1 1 1 1 pace 1 from 9 to 1440", 32},
            {"ship 1 301 1 1 1 pace 1 from 1 to 1", 7}, {"ship 1 1 1 2 1 pace 1 from 1 to 1", 13},
            {"hole 51 1", 5}, {"hole west 51 1", 10}, {"hole 1 0", 7}, {"hole 1 51", 7}, {"hole 1 west 1", 7},
            {"hole 1 0001", 7}, {"hole 1", 6}, {"hole", 4}, {"hole  ", 6}, {"hole west", 9}, {"hole west west 1 1", 10},
            {"wall 0 from 1 to 1 top 1", 5}, {"wall 51 from 1 to 1 top 1", 5}, {"wall 1 from 5 to 4 top 1", 17},
            {"wall 1 from west 5 to west 6 top 1", 27}, {"wall 1 from 100 to 100 top 1", 12},
            {"wall 1 from west 5 to 100 top 1", 22}, {"wall 1 from 1 to 1 top 100", 23}, {"wall 1 from 1 to 1", 18},
            {"wall 1 from 1 to 1 from 1", 19}, {"cloud 24", 6}, {"cloud", 5}, {"cloud 1 2 24", 10}, {"cloud 1 x", 8},
            {"cloud;clear", 5}, {"fog 0", 4}, {"fog 301", 4}, {"fog west 1", 4}, {"fog 0005", 4}, {"fog 5 5", 6},
            {"moon 12", 5}, {"moon low 1", 5}, {"tide 12 1", 5}, {"tide 1 10", 7}, {"tide 1 low", 10},
            {"tide 1 low 10", 11}, {"tide 1 west 1", 7}, {"tide low 1 1", 5}, {"things 1", 0}, {"thin", 0}, {"5", 0},
            {";", 0}, {"  ;", 2}, {"clear;", 6}, {"clear ; ", 8}, {"clear;;clear", 6}, {"clear 1", 6}, {"clear clear", 6},
            {"Clear", 0}, {"cLear", 0}, {"clear.", 5}, {"clear\t", 5}, {"fog\t5", 3}, {"fog 5\0", 5}, {"fog 5a", 5},
            {"\u00ff", 0}, {"clear\u0080", 5}, {"fog -5", 4}, {"fog 5;charge 1", 6}, {"foga5", 0}, {"fog 5 ;moon x", 12},
            {"clear", NONE}, {" clear ", NONE}, {"clear;clear", NONE}, {"fog005;clear", NONE}, {"hole west00 1", NONE},
            {"ship 1 1 1 1 1 pace 1 from 0009 to 0009", NONE}, {"thing1 1 1 1 1from1to1", NONE},
        };
        for (Object[] fault : faults) {
            WallHarbour x = new WallHarbour();
            Texts.harbourFault(x, "fog");
            Check.same("fault ahead", x.fault(), 3);
            Check.same("fault of " + fault[0], Texts.harbourFault(x, (String) fault[0]), (Integer) fault[1]);
            Check.same("texts behind " + fault[0], x.count(3), (Integer) fault[1] == NONE ? 1 : 0);
        }
    }

    private static String times(int n, String line) {
        StringBuilder text = new StringBuilder(line);
        for (int i = 1; i < n; i++) {
            text.append(';').append(line);
        }
        return text.toString();
    }

    private static void harbourFaultsOfOrder() {
        Check.same("14 lines", Texts.harbourFault(new WallHarbour(), times(14, "clear")), NONE);
        Check.same("15 lines", Texts.harbourFault(new WallHarbour(), times(15, "clear")), 84);
        Check.same("15 lines, the last wrong", Texts.harbourFault(new WallHarbour(), times(14, "clear") + "; fog 0"), 85);
        Check.same("14 lines and more", Texts.harbourFault(new WallHarbour(), times(14, "clear") + "; "), 85);

        WallHarbour x = Texts.with(times(5, "thing 1 1 1 1 1 from 1 to 1"), times(5, "thing 1 1 1 1 1 from 1 to 1"));
        Check.same("things", x.count(0), 10);
        Check.same("an 11th thing", Texts.harbourFault(x, "fog 5; thing 1 0"), 7);
        Check.same("an 11th thing", Texts.harbourFault(x, "thing"), 0);
        Check.same("a word that is none", Texts.harbourFault(x, "fog 5; thingy"), 7);
        Check.same("things", x.count(0), 10);
        x = Texts.with(times(6, "ship 1 1 1 1 1 pace 1 from 1 to 1"));
        Check.same("ships", x.count(1), 6);
        Check.same("a 7th ship", Texts.harbourFault(x, " ship x"), 1);
        x = Texts.with("hole 1 1", "hole 2 2;hole 3 3");
        Check.same("holes", x.count(2), 3);
        Check.same("a 4th hole", Texts.harbourFault(x, "clear;hole 1 1"), 6);
        x = Texts.with("hole 1 1");
        Check.same("a 4th hole in the text", Texts.harbourFault(x, "hole 1 1;hole 1 1;hole 1 1"), 18);
        Check.same("none of them stays", x.count(2), 1);
        Check.same("an 11th thing in the text", Texts.harbourFault(x, times(11, "thing 1 1 1 1 1 from 1 to 1")), 280);
        Check.same("none of them stays", x.count(0), 0);
    }

    private static void lawFaults() {
        Object[][] faults = {
            {"charges 1", 0}, {"charge", 6}, {"charge  ", 8}, {"charge 1000", 7}, {"charge x", 7}, {"charge west 1", 7},
            {"charge 5 if", 11}, {"charge 5 if far", 15}, {"charge 5 if far<", 16}, {"charge 5 if seen<2", 16},
            {"charge 5 if 2*far<3", 13}, {"charge 5 if (seen", 17}, {"charge 5 if (seen ", 18}, {"charge 5 if ()", 13},
            {"charge 5 if seen)", 16}, {"charge 5 if (far)<3", 16}, {"charge 5 if far<3<4", 17}, {"charge 5 if far=3", 15},
            {"charge 5 if far+<3", 16}, {"charge 5 if 1000<3", 12}, {"charge 5 if 3<1000", 14}, {"charge 5 seen", 9},
            {"charge 5 if not", 15}, {"charge 5 if seen and", 20}, {"charge 5 if seen or", 19},
            {"charge 5 if seen or or", 20}, {"charge 5 if seen seen", 17}, {"charge 5 if seen not ship", 17},
            {"charge 5 if ship+1>2", 16}, {"charge 5 if 1+ship>2", 14}, {"charge 5 if and", 12}, {"charge 5 if fars<2", 12},
            {"charge 5 if seenand ship", 12}, {"charge 5;", 9}, {";charge 5", 0}, {"charge 5 if seen;;", 17},
            {"charge 5 if;", 11}, {"charge 5 6", 9}, {"charge 5 if far > west 3", 18}, {"charge 5 if far<3 if", 18},
            {"fog 5", 0}, {"charge 5 if ((((((seen))))))", NONE}, {"charge 5 if (((((((seen)))))))", 18},
            {"charge 5 if not not not not not not seen", NONE}, {"charge 5 if not not not not not not not seen", 36},
            {"charge 5 if not(not(not(not seen)))", 24}, {"charge 5 if not(not(not(seen)))", NONE},
            {"charge 5 if not(not(not((seen))))", 24}, {"charge 5 if ((((((not seen))))))", 18},
            {"charge 5 if ((((((seen)))))) and ((((((seen))))))", NONE},
            {"charge 5 if not not not not not not seen or not seen", NONE},
            {"charge 5 if far+far+far+1<3", NONE}, {"charge5if1<2and3>4or seen", NONE}, {"charge 5if(ship)", NONE},
            {"charge 5 if 1< 2 ; charge 6 ", NONE}, {"charge 5 if 1\u00ab2", 13},
        };
        for (Object[] fault : faults) {
            WallHarbour x = new WallHarbour();
            Check.same("fault of " + fault[0], Texts.lawFault(x, (String) fault[0]), (Integer) fault[1]);
            Check.same("lines behind " + fault[0], x.count(4) == NONE, (Integer) fault[1] != NONE);
        }
        Check.same("12 lines", Texts.lawFault(new WallHarbour(), times(12, "charge 5")), NONE);
        Check.same("13 lines", Texts.lawFault(new WallHarbour(), times(13, "charge 5")), 108);
        Check.same("12 lines and more", Texts.lawFault(new WallHarbour(), times(12, "charge 5") + ";  "), 110);
    }

    private static void now() {
        WallHarbour x = new WallHarbour();
        Check.same("now", x.now(999, 1439), 0);
        Check.same("day", x.count(5), 999);
        Check.same("minute", x.count(6), 1439);
        Check.fails("day below", ILLEGAL, () -> x.now(-1, 0));
        Check.fails("day above", ILLEGAL, () -> x.now(1000, 0));
        Check.fails("minute below", ILLEGAL, () -> x.now(0, -1));
        Check.fails("minute above", ILLEGAL, () -> x.now(0, 1440));
        Check.same("the one before", x.now(7, 8), 999 * 1440 + 1439);
        Check.same("the one before", x.now(0, 0), 7 * 1440 + 8);
    }

    private static void body() {
        WallHarbour x = Texts.with("thing 7 8 9 10 11 from 12 to 13; ship west 20 21 3 4 5 pace west 2 from 100 to 200;"
                + "ship 1 2 3 4 5 pace 9 from 0 to 1439; tide 1 6; tide 4 low 9; moon 3");
        Check.fails("below", INDEX, () -> x.body(-1, 0));
        Check.fails("between", INDEX, () -> x.body(1, 0));
        Check.fails("between", INDEX, () -> x.body(9, 0));
        Check.fails("above", INDEX, () -> x.body(12, 0));
        Check.fails("far above", INDEX, () -> x.body(16, 0));
        Check.fails("far above", INDEX, () -> x.body(Integer.MAX_VALUE, 0));
        Check.fails("what below", NO_SUCH, () -> x.body(0, -1));
        Check.fails("what above", NO_SUCH, () -> x.body(0, 8));
        Check.fails("both", INDEX, () -> x.body(1, 8));
        x.now(0, 100);
        Check.same("ship's X", x.body(10, 0), -220);
        Check.same("ship's LOW", x.body(10, 3), 10);
        Check.same("ship's HIGH", x.body(10, 4), 11);
        Check.same("there at first", x.body(10, 7), 1);
        Check.same("thing's LOW", x.body(0, 3), 10);
        Check.same("not there yet", x.body(0, 7), 0);
        x.now(12, 99);
        Check.same("ship not there yet", x.body(10, 7), 0);
        Check.same("thing there at first", x.body(0, 7), 1);
        x.now(13, 200);
        Check.same("ship there at last", x.body(10, 7), 1);
        Check.same("thing there at last", x.body(0, 7), 1);
        Check.same("tide of 3 + 39", x.body(10, 3), 4);
        x.now(14, 201);
        Check.same("ship gone", x.body(10, 7), 0);
        Check.same("thing gone", x.body(0, 7), 0);
        x.now(1, 60);
        Check.same("low tide", x.body(11, 3), -5);
        Check.same("low tide", x.body(11, 4), -4);
        Check.same("X by 60 minutes", x.body(11, 0), 541);
        x.now(0, 1439);
        Check.same("X far away", x.body(11, 0), 1 + 9 * 1439);
        int[] rest = {7, 8, 9, 10, 11, 12, 13};
        for (int what = 0; what < rest.length; what++) {
            Check.same("thing " + what, x.body(0, what), rest[what]);
        }
    }

    private static void spot() {
        WallHarbour x = Texts.with("hole 0 10; hole 5 1; thing 10 100 0 0 20 from 5 to 6; thing west 7 30 0 0 10 from 0 to 9;"
                + "ship 0 7 0 0 3 pace 1 from 0 to 0; tide 0 2");
        int[][] due = {{0, 0, 0, -1, -1, 1}, {0, 0, 1, 9, 9, 1}, {0, 1, 0, 4, 9, 2}, {0, 1, 1, -1, -9, 10},
            {1, 0, 0, 2, 7, 3}, {1, 0, 1, 10, 10, 1}, {1, 1, 0, 9, 9, 1}, {1, 1, 1, -2, -2, 1},
            {10, 0, 0, 0, 0, 1}, {10, 0, 1, 17, 120, 7}, {10, 1, 0, 12, 85, 7}, {10, 1, 1, -5, -33, 7}};
        for (int[] row : due) {
            for (int what = 0; what < 3; what++) {
                Check.same("spot " + row[0] + " " + row[1] + " " + row[2] + " " + what,
                        x.spot(row[0], row[1], row[2] == 1, what), row[3 + what]);
            }
        }
        x.now(0, 1);
        Check.same("a ship's spot a minute later", x.spot(10, 0, false, 1), -10);
        Check.same("a ship's spot a minute later", x.spot(10, 0, false, 2), 7);
        Texts.harbour(x, "wall 3 from 0 to 0 top 0");
        Check.same("with another wall", x.spot(0, 0, false, 1), -3);
        Check.same("with another wall", x.spot(0, 0, false, 2), 10);
        Check.fails("no body", INDEX, () -> x.spot(2, 0, true, 0));
        Check.fails("no hole", INDEX, () -> x.spot(0, 2, true, 0));
        Check.fails("no hole below", INDEX, () -> x.spot(0, -1, true, 0));
        Check.fails("no what", NO_SUCH, () -> x.spot(0, 0, true, 3));
        Check.fails("no what below", NO_SUCH, () -> x.spot(0, 0, true, -1));
        Check.fails("neither", INDEX, () -> x.spot(0, 3, true, 3));
    }

    private static void seen() {
        WallHarbour x = Texts.with("hole 0 10; thing 0 50 1 0 10 from 3 to 5");
        x.now(3, 359);
        Check.same("dark at 5:59", x.seen(0, 0), false);
        x.now(3, 360);
        Check.same("light at 6:00", x.seen(0, 0), true);
        x.now(5, 1079);
        Check.same("light at 17:59", x.seen(0, 0), true);
        x.now(5, 1080);
        Check.same("dark at 18:00", x.seen(0, 0), false);
        x.now(2, NOON);
        Check.same("not built yet", x.seen(0, 0), false);
        x.now(6, NOON);
        Check.same("fallen", x.seen(0, 0), false);
        x.now(4, NOON);
        Texts.harbour(x, "fog 50; cloud 11 13");
        Check.same("at the fog", x.seen(0, 0), true);
        Texts.harbour(x, "fog 49");
        Check.same("beyond the fog", x.seen(0, 0), false);
        Texts.harbour(x, "fog 300; cloud 12");
        Check.same("clouds", x.seen(0, 0), false);
        x.now(4, 779);
        Check.same("clouds of an hour", x.seen(0, 0), false);
        x.now(4, 780);
        Check.same("clouds gone", x.seen(0, 0), true);
        x.now(4, 719);
        Check.same("no clouds yet", x.seen(0, 0), true);
        Check.fails("no body", INDEX, () -> x.seen(1, 0));
        Check.fails("no hole", INDEX, () -> x.seen(0, 1));
        Check.fails("no hole below", INDEX, () -> x.seen(0, -1));
        Texts.harbour(x, "thing 0 25 0 10 10 from 5 to 5; ship 0 30 0 10 10 pace 0 from 0 to 100");
        Check.same("what hides is not there", x.seen(0, 0), true);
        x.now(5, 800);
        Check.same("what hides is there", x.seen(0, 0), false);
        Check.same("what hides is seen", x.seen(1, 0), true);
    }

    private static void seenOnTheWallsEnds() {
        WallHarbour x = Texts.with("wall 10 from west 3 to 2 top 5; hole 0 4;"
                + "thing 12 40 0 4 4 from 0 to 0; thing 13 40 0 4 4 from 1 to 1;"
                + "thing west 8 40 0 4 4 from 2 to 2; thing west 9 40 0 4 4 from 3 to 3;"
                + "thing 0 40 0 0 0 from 4 to 4; thing 0 40 0 20 20 from 5 to 5; thing 0 40 0 21 21 from 6 to 6");
        boolean[] due = {true, false, true, false, true, true, false};
        for (int i = 0; i < due.length; i++) {
            x.now(i, NOON);
            Check.same("on the wall " + i, x.seen(i, 0), due[i]);
        }
        Texts.harbour(x, "ship 0 40 0 0 0 pace 0 from 720 to 720;tide 0 low 1;tide 1 low 4;tide 2 low 5");
        x.now(10, 720);
        Check.same("V 5 and a quarter", x.seen(10, 0), false);
        Texts.harbour(x, "tide 0 0");
        Check.same("V 5", x.seen(10, 0), true);
    }

    private static void hider() {
        WallHarbour x = Texts.with("hole 0 10; thing 10 100 0 0 20 from 0 to 50; thing 5 50 2 0 15 from 10 to 20;"
                + "thing 8 80 0 0 99 from 15 to 20; ship 2 40 2 0 14 pace 0 from 600 to 700; hole 50 50");
        x.now(0, 0);
        Check.same("none is there", x.hider(0, 0), NONE);
        x.now(10, 0);
        Check.same("by night too", x.hider(0, 0), 1);
        Check.same("by another hole", x.hider(0, 1), NONE);
        x.now(16, NOON);
        Check.same("the least of two", x.hider(0, 0), 1);
        Check.same("the farther one hides none nearer", x.hider(1, 0), NONE);
        x.now(8, 650);
        Check.same("the ship", x.hider(0, 0), 10);
        Check.same("seen", x.seen(0, 0), false);
        x.now(60, 650);
        Check.same("what is hidden need not be there", x.hider(0, 0), 10);
        Texts.harbour(x, "wall 10 from 50 to 60 top 1");
        Check.same("nor on the wall", x.hider(0, 0), 10);
        Texts.harbour(x, "fog 1");
        Check.same("nor this side of the fog", x.hider(0, 0), 10);
        Check.fails("no body", INDEX, () -> x.hider(3, 0));
        Check.fails("no hole", INDEX, () -> x.hider(0, 2));
        Check.fails("no hole below", INDEX, () -> x.hider(0, -1));
    }

    private static void hidersEnds() {
        String hidden = "hole 0 10; thing 10 100 0 0 20 from 0 to 9;";
        Object[][] near = {
            {"thing 7 50 2 0 99 from 0 to 9", 1}, {"thing 8 50 2 0 99 from 0 to 9", NONE},
            {"thing 3 50 2 0 99 from 0 to 9", 1}, {"thing 2 50 2 0 99 from 0 to 9", NONE},
            {"thing 5 50 0 0 15 from 0 to 9", 1}, {"thing 5 50 0 0 14 from 0 to 9", NONE},
            {"thing 5 50 0 15 20 from 0 to 9", 1}, {"thing 5 50 0 16 20 from 0 to 9", NONE},
            {"thing 10 100 5 0 99 from 0 to 9", NONE}, {"thing 10 101 5 0 99 from 0 to 9", NONE},
            {"thing 9 99 1 0 99 from 0 to 9", 1}, {"thing 9 99 0 0 99 from 0 to 9", NONE},
            {"thing 10 99 0 0 99 from 0 to 9", NONE},
            {"ship 5 50 0 0 13 pace 0 from 0 to 9;tide 0 2", 10}, {"ship 5 50 0 0 13 pace 0 from 0 to 9;tide 0 1", NONE},
            {"ship 5 50 0 13 20 pace 0 from 0 to 9;tide 0 2", 10}, {"ship 5 50 0 13 20 pace 0 from 0 to 9;tide 0 3", NONE},
        };
        for (Object[] row : near) {
            Check.same("hider " + row[0], Texts.with(hidden + row[0]).hider(0, 0), (Integer) row[1]);
        }
    }

    private static void charge() {
        WallHarbour x = Texts.with("hole 0 10;hole 5 10; thing 5 50 0 0 12 from 2 to 4; ship 0 20 3 4 9 pace 1 from 60 to 119",
                "tide 1 3");
        Texts.law(x, "charge 1;charge 2 if ship;charge 4 if hour>0;charge 8 if day>2;charge 16 if seen");
        Check.same("not there", x.charge(0), 0);
        Check.same("not there", x.charge(10), 0);
        x.now(2, 60);
        Check.same("thing", x.charge(0), 5);
        Check.same("ship", x.charge(10), 7);
        x.now(3, 59);
        Check.same("thing, a day later, at hour 0", x.charge(0), 9);
        x.now(4, NOON);
        Check.same("thing, in light", x.charge(0), 29);
        Check.fails("no body", INDEX, () -> x.charge(1));
        Check.fails("no body", INDEX, () -> x.charge(11));
        Check.fails("no body", INDEX, () -> x.charge(-1));
        Texts.harbour(x, "thing 4 40 0 0 99 from 4 to 4");
        Check.same("seen by the other hole", x.charge(0), 29);
        Texts.harbour(x, "thing 5 40 0 0 99 from 4 to 4");
        Check.same("seen by none", x.charge(0), 13);
    }

    private static void charges() {
        WallHarbour x = Texts.with("hole 0 10; thing 5 50 0 0 12 from 2 to 4; ship 0 20 3 4 9 pace 0 from 1 to 121; cloud 8");
        Check.same("without a law", x.charges(3), 0);
        Texts.law(x, "charge 1");
        Check.same("24 hours, and the ship's 60 and 120", x.charges(2), 26);
        Check.same("24 hours, and the ship's 60 and 120", x.charges(4), 26);
        Check.same("the ship alone", x.charges(5), 2);
        Check.same("the ship alone", x.charges(1), 2);
        Texts.law(x, "charge 3 if seen; charge 1 if hour>22; charge 100 if day>2");
        Check.same("11 hours of light", x.charges(2), 34);
        Check.same("of that day", x.charges(3), 34 + 2600);
        Check.same("now stays", x.now(0, 0), 0);
        Check.fails("no day", ILLEGAL, () -> x.charges(-1));
        Check.fails("no day", ILLEGAL, () -> x.charges(1000));
        Check.same("the last day", x.charges(999), 200);
    }

    private static void tide() {
        StringBuilder text = new StringBuilder("moon 5");
        for (int i = 0; i < 10; i++) {
            text.append(";tide ").append(i).append(' ').append(i);
        }
        WallHarbour x = Texts.with(text.toString(), "tide 10 low 1; tide 11 low 2");
        int[] levels = {0, 1, 2, 3, 4, 5, 6, 7, 8, 9, -1, -2};
        for (int day : new int[] {0, 1, 2, 7, 998, 999}) {
            for (int minute : new int[] {0, 59, 60, 719, 720, 779, 1439}) {
                Check.same("tide " + day + " " + minute, x.tide(day, minute), levels[(minute / 60 + 5 * day) % 12]);
            }
        }
        Check.fails("no day", ILLEGAL, () -> x.tide(-1, 0));
        Check.fails("no day", ILLEGAL, () -> x.tide(1000, 0));
        Check.fails("no minute", ILLEGAL, () -> x.tide(0, -1));
        Check.fails("no minute", ILLEGAL, () -> x.tide(0, 1440));
    }

    private static void trace() {
        WallHarbour x = new WallHarbour();
        Check.fails("no hole", INDEX, () -> x.trace(0, 0, 0, 0, 0));
        Texts.harbour(x, "hole 0 10");
        Check.fails("no hole", INDEX, () -> x.trace(1000, 0, 1, 0, 0));
        Check.fails("no hole", INDEX, () -> x.trace(0, 0, -1, 0, 0));
        int[][] wrong = {{-1, 0, 0, 0}, {1000, 0, 0, 0}, {0, -1, 0, 0}, {0, 1440, 0, 0}, {0, 0, -1000, 0}, {0, 0, 1000, 0},
            {0, 0, 0, -1000}, {0, 0, 0, 1000}};
        for (int[] row : wrong) {
            Check.fails("no tracing", ILLEGAL, () -> x.trace(row[0], row[1], 0, row[2], row[3]));
        }
        Check.same("none came", x.count(7), 0);
        Check.same("first", x.trace(0, 0, 0, -999, -999), 0);
        Check.same("second", x.trace(999, 1439, 0, 999, 999), 1);
        for (int i = 2; i < 40; i++) {
            Check.same("tracing", x.trace(1, 2, 0, 3, 4), i);
        }
        Check.fails("a 41st", UNSUPPORTED, () -> x.trace(1, 2, 0, 3, 4));
        Check.fails("a wrong 41st", ILLEGAL, () -> x.trace(1, 2, 0, 1000, 4));
        Check.fails("a 41st of no hole", INDEX, () -> x.trace(1, 2, 1, 3, 4));
        Check.same("tracings", x.count(7), 40);
    }

    private static void draw() {
        WallHarbour x = Texts.with("hole 0 10;hole 1 9; thing 7 30 0 0 13 from 5 to 6; ship 0 60 2 4 5 pace 1 from 700 to 730;"
                + "tide 0 3");
        x.now(5, 0);
        Check.same("not seen", x.draw(0, 0), NONE);
        Check.same("none came", x.count(7), 0);
        x.now(5, NOON);
        Check.same("drawn", x.draw(0, 0), 0);
        Check.same("of the thing", x.which(0), 1);
        Check.same("drawn", x.draw(0, 1), 1);
        Check.fails("no body", INDEX, () -> x.draw(1, 0));
        Check.fails("no hole", INDEX, () -> x.draw(0, 2));
        x.now(5, 710);
        Texts.harbour(x, "wall 5 from west 99 to 99 top 99");
        Check.same("the ship", x.draw(10, 0), 2);
        Check.same("of the ship", x.which(2), 1 << 10);
        Check.same("of another wall now", x.which(0), 0);
        for (int i = 3; i < 40; i++) {
            Check.same("drawn", x.draw(0, 0), i);
        }
        Check.fails("a 41st", UNSUPPORTED, () -> x.draw(0, 0));
        x.now(5, 0);
        Check.same("a 41st that is not seen", x.draw(0, 0), NONE);
        Check.fails("a 41st of no body", INDEX, () -> x.draw(4, 0));
        Check.same("tracings", x.count(7), 40);
        WallHarbour y = Texts.with("hole 0 10; thing 7 30 0 0 13 from 5 to 6");
        y.now(6, NOON);
        y.draw(0, 0);
        y.trace(6, 1, 0, -3, 9);
        y.trace(6, 1, 0, -2, 9);
        y.trace(6, 1, 0, -3, 8);
        Check.same("U - 7 by 3, rounded down, V 9", y.which(1), 1);
        Check.same("another U", y.which(2), 0);
        Check.same("another V", y.which(3), 0);
        Check.same("the day of the drawn one", y.when(0, false), 6);
    }

    private static void undo() {
        WallHarbour x = Texts.with("hole 0 10");
        Check.same("without", x.undo(), NONE);
        x.trace(0, 0, 0, 1, 1);
        x.trace(0, 0, 0, 2, 2);
        Check.same("the latest", x.undo(), 1);
        Check.same("one is left", x.count(7), 1);
        Check.fails("it is gone", INDEX, () -> x.which(1));
        Check.same("its number again", x.trace(0, 0, 0, 3, 3), 1);
        Check.same("undone", x.undo(), 1);
        Check.same("undone", x.undo(), 0);
        Check.same("without", x.undo(), NONE);
    }

    private static void which() {
        WallHarbour x = Texts.with("hole 0 10; hole 2 10; thing 10 100 0 0 20 from 3 to 5; thing 5 50 1 0 15 from 3 to 3;"
                + "ship 0 40 0 10 11 pace 1 from 4 to 8; tide 0 3");
        x.trace(3, 0, 0, -1, 9);
        x.trace(4, 4, 0, -1, 9);
        x.trace(6, 0, 0, -1, 9);
        x.trace(6, 4, 0, -1, 9);
        x.trace(6, 4, 1, -1, 9);
        x.trace(3, 8, 0, -2, 9);
        x.trace(3, 9, 0, -3, 9);
        x.trace(3, 64, 0, -16, 9);
        int[] due = {3, 1 | 1 << 10, 0, 1 << 10, 0, 1 << 10, 0, 0};
        for (int i = 0; i < due.length; i++) {
            Check.same("which " + i, x.which(i), due[i]);
        }
        Check.fails("no tracing", INDEX, () -> x.which(8));
        Check.fails("no tracing", INDEX, () -> x.which(-1));
        x.now(900, 1000);
        Check.same("whatever is now", x.which(0), 3);
    }

    private static void slips() {
        WallHarbour x = Texts.with("hole 0 10; thing 10 100 0 0 20 from 3 to 5; thing 5 50 1 0 15 from 7 to 9");
        x.trace(3, 0, 0, -1, 9);
        Check.same("no slip", x.slips(), 0);
        x.trace(6, 0, 0, -1, 9);
        Check.same("fits what was not there", x.slips(), 1);
        x.trace(8, 0, 0, -1, 9);
        Check.same("no slip", x.slips(), 1);
        x.trace(8, 0, 0, -1, 8);
        Check.same("fits none", x.slips(), 2);
        x.undo();
        Check.same("undone", x.slips(), 1);
    }

    private static void places() {
        WallHarbour x = Texts.with("hole 0 10; hole 20 10; hole 0 5; wall 10 from west 99 to 99 top 99");
        x.trace(0, 0, 0, -5, 10);
        x.trace(0, 0, 1, 25, 10);
        x.trace(5, 9, 2, 0, 0);
        // by the first two: X from 4 Y by 10 and 1 on to 5 Y by 10, and 20 less (X less 20) 10 by Y from 25 to 26
        int many = 0;
        int firstX = 0;
        int firstY = 0;
        for (int y = 300; y >= 1; y--) {
            for (int at = 99; at >= -99; at--) {
                int u = Math.floorDiv(-at * 10, y);
                int other = Math.floorDiv(20 * y - (at - 20) * 10, y);
                if (u == -5 && other == 25) {
                    many++;
                    firstX = at;
                    firstY = y;
                }
            }
        }
        Check.same("how many", x.places(3, 10, 0, 0), many);
        Check.same("the first's X", x.places(3, 10, 0, 1), firstX);
        Check.same("the first's Y", x.places(3, 10, 0, 2), firstY);
        Check.tell(many > 0 && many < 1000, "some places");
        Check.same("of another height", x.places(3, -99, 0, 0), 0);
        Check.same("of another height: X", x.places(3, -99, 0, 1), NOTHING);
        Check.same("of another height: Y", x.places(3, -99, 0, 2), NONE);
        Check.same("all but one of one", x.places(1, 99, 1, 0), 59700);
        Check.same("the first of all: X", x.places(1, 99, 1, 1), -99);
        Check.same("the first of all: Y", x.places(1, 99, 1, 2), 1);
        Check.same("all but 30", x.places(7, 99, 30, 0), 59700);
        Check.same("bits of none count for nothing", x.places(-5, 10, 0, 0), x.places(3, 10, 0, 0));
        Check.tell(x.places(7, 10, 1, 0) >= many && x.places(7, 10, 0, 0) == 0, "all but one of three");
        Check.fails("no tracing", ILLEGAL, () -> x.places(0, 10, 0, 0));
        Check.fails("no tracing", ILLEGAL, () -> x.places(8, 10, 0, 0));
        Check.fails("Z below", ILLEGAL, () -> x.places(1, -100, 0, 0));
        Check.fails("Z above", ILLEGAL, () -> x.places(1, 100, 0, 0));
        Check.fails("E below", ILLEGAL, () -> x.places(1, 0, -1, 0));
        Check.fails("E above", ILLEGAL, () -> x.places(1, 0, 31, 0));
        Check.fails("no what", NO_SUCH, () -> x.places(1, 0, 0, 3));
        Check.fails("no what", NO_SUCH, () -> x.places(1, 0, 0, -1));
        Check.fails("neither", ILLEGAL, () -> x.places(0, 0, 0, 3));
        for (int i = 3; i < 40; i++) {
            x.trace(0, 0, 0, -5, 10);
        }
        Check.fails("of the first 30 alone", ILLEGAL, () -> x.places(3 << 30, 0, 0, 0));
        Check.same("the 30th counts", x.places(1 << 29, 10, 0, 0), x.places(1, 10, 0, 0));
        Check.same("of all 30 but one", x.places(-1, 10, 1, 0), many);
        Check.same("of all 30 but two", x.places(-1, 10, 2, 0), x.places(1, 10, 0, 0));
    }

    private static void when() {
        WallHarbour x = Texts.with("hole 0 10; thing 10 100 0 0 20 from 3 to 5; thing 0 50 1 0 15 from 7 to 9;"
                + "ship 10 100 0 0 20 pace 0 from 0 to 9");
        Check.same("without a tracing", x.when(0, false), NONE);
        Check.same("without a tracing", x.when(0, true), NONE);
        x.trace(20, 0, 0, -1, 9);
        Check.same("one", x.when(0, false), 20);
        Check.same("one", x.when(0, true), 20);
        x.trace(4, 0, 0, -1, 9);
        x.trace(900, 0, 0, -1, 9);
        x.trace(500, 0, 0, -1, 9);
        x.trace(0, 0, 0, -1, 8);
        x.trace(999, 0, 0, 0, 9);
        x.trace(0, 0, 0, 0, 8);
        Check.same("built", x.when(0, false), 4);
        Check.same("fell", x.when(0, true), 900);
        Check.same("another built", x.when(1, false), 999);
        Check.same("another fell", x.when(1, true), 999);
        Check.fails("no thing", INDEX, () -> x.when(2, true));
        Check.fails("no thing", INDEX, () -> x.when(-1, true));
        Check.fails("a ship", INDEX, () -> x.when(10, false));
        x.trace(0, 0, 0, -1, 9);
        Check.same("day 0", x.when(0, false), 0);
    }

    private static void paces() {
        WallHarbour x = Texts.with("hole 0 10; hole 1 10");
        x.trace(0, 10, 0, -4, 0);
        x.trace(0, 20, 0, -9, 50);
        x.trace(0, 20, 1, -9, 0);
        x.trace(1, 20, 0, -9, 0);
        x.trace(0, 10, 0, -9, 0);
        x.trace(0, 11, 0, -4, 0);
        x.trace(0, 1439, 0, 999, 0);
        Check.same("how many", x.paces(0, 1, 40, 0), 1);
        Check.same("the first", x.paces(0, 1, 40, 1), 2);
        Check.same("its AT", x.paces(0, 1, 40, 2), -7);
        Check.same("the other way", x.paces(1, 0, 40, 2), -7);
        // at Y 40 X is 13 to 16 at minutes 10 and 11: paces - 3 to 3
        Check.same("how many", x.paces(0, 5, 40, 0), 7);
        Check.same("the first", x.paces(0, 5, 40, 1), -3);
        Check.same("its AT", x.paces(0, 5, 40, 2), 46);
        // at Y 300 X is 91 to 120 at both: all paces, the first's AT at minute 10 is 100 or above
        Check.same("all paces", x.paces(0, 5, 300, 0), 19);
        Check.same("the first", x.paces(0, 5, 300, 1), -9);
        Check.same("its AT", x.paces(0, 5, 300, 2), 190);
        Check.same("AT beyond", x.paces(0, 6, 40, 0), 0);
        Check.same("AT beyond", x.paces(0, 6, 40, 1), NOTHING);
        Check.same("AT beyond", x.paces(0, 6, 40, 2), NOTHING);
        // at Y 10 U is - X
        WallHarbour ends = Texts.with("hole 0 10");
        ends.trace(0, 0, 0, -999, 0);
        ends.trace(0, 1, 0, -990, 0);
        ends.trace(0, 2, 0, -999, 0);
        ends.trace(0, 3, 0, -991, 0);
        ends.trace(1, 1, 0, 991, 0);
        ends.trace(1, 2, 0, 982, 0);
        ends.trace(1, 3, 0, 990, 0);
        ends.trace(1, 4, 0, 982, 0);
        Check.same("AT 999", ends.paces(0, 1, 10, 0), 1);
        Check.same("AT 999", ends.paces(0, 1, 10, 1), -9);
        Check.same("AT 999", ends.paces(0, 1, 10, 2), 999);
        Check.same("AT 981", ends.paces(1, 2, 10, 2), 981);
        Check.same("AT 1015", ends.paces(2, 3, 10, 0), 0);
        Check.same("AT - 1000", ends.paces(4, 5, 10, 0), 0);
        Check.same("AT - 1014", ends.paces(6, 7, 10, 0), 0);
        ends.trace(2, 1, 0, 990, 0);
        ends.trace(2, 2, 0, 981, 0);
        Check.same("AT - 999", ends.paces(8, 9, 10, 0), 1);
        Check.same("AT - 999", ends.paces(8, 9, 10, 1), 9);
        Check.same("AT - 999", ends.paces(8, 9, 10, 2), -999);
        ends.trace(3, 1, 0, -991, 0);
        ends.trace(3, 2, 0, -982, 0);
        Check.same("AT 1000", ends.paces(10, 11, 10, 0), 0);
        Check.fails("no tracing", INDEX, () -> x.paces(-1, 1, 40, 0));
        Check.fails("no tracing", INDEX, () -> x.paces(0, 7, 40, 0));
        Check.fails("holes", ILLEGAL, () -> x.paces(0, 2, 40, 0));
        Check.fails("days", ILLEGAL, () -> x.paces(0, 3, 40, 0));
        Check.fails("minutes", ILLEGAL, () -> x.paces(0, 4, 40, 0));
        Check.fails("one", ILLEGAL, () -> x.paces(0, 0, 40, 0));
        Check.fails("Y below", ILLEGAL, () -> x.paces(0, 1, 0, 0));
        Check.fails("Y above", ILLEGAL, () -> x.paces(0, 1, 301, 0));
        Check.fails("what", NO_SUCH, () -> x.paces(0, 1, 40, 3));
        Check.fails("what", NO_SUCH, () -> x.paces(0, 1, 40, -1));
        Check.fails("all wrong", INDEX, () -> x.paces(0, 9, 0, 3));
        Check.fails("Y and what", ILLEGAL, () -> x.paces(0, 1, 0, 3));
    }

    private static void mark() {
        WallHarbour x = Texts.with("hole 0 10; hole 3 4");
        Check.same("one", x.mark(0, 10, 0, 15, true), 1);
        Check.same("its tide", x.mark(0, 10, 0, 15, false), 5);
        Check.same("none", x.mark(0, 10, 0, 30, true), 0);
        Check.same("none", x.mark(0, 10, 0, 30, false), NOTHING);
        Check.same("many", x.mark(99, 100, 0, 10, true), 9);
        Check.same("the least", x.mark(-99, 100, 0, 10, false), 1);
        Check.same("below 0", x.mark(0, 100, 0, 11, true), 10);
        Check.same("below 0", x.mark(0, 100, 0, 11, false), -9);
        Check.same("by another hole", x.mark(0, 300, 1, 4, false), -9);
        Check.same("by another hole", x.mark(0, 300, 1, 4, true), 14);
        Check.same("rounded down below 0", x.mark(0, 1, 1, -46, false), 9);
        Check.fails("no hole", INDEX, () -> x.mark(0, 10, 2, 0, true));
        Check.fails("no hole", INDEX, () -> x.mark(0, 10, -1, 0, true));
        Check.fails("X below", ILLEGAL, () -> x.mark(-100, 10, 0, 0, true));
        Check.fails("X above", ILLEGAL, () -> x.mark(100, 10, 0, 0, true));
        Check.fails("Y below", ILLEGAL, () -> x.mark(0, 0, 0, 0, true));
        Check.fails("Y above", ILLEGAL, () -> x.mark(0, 301, 0, 0, true));
        Check.fails("all wrong", INDEX, () -> x.mark(100, 0, 2, 0, true));
        Check.same("any V", x.mark(0, 1, 0, Integer.MIN_VALUE, true), 0);
    }

    private static void setting() {
        WallHarbour x = new WallHarbour();
        Check.same("of nothing", x.setting(-1, NONE, 0), 0);
        Check.same("the first P", x.setting(-1, NONE, 1), -10);
        Check.same("the first H", x.setting(-1, NONE, 2), 1);
        Check.same("the first DEEP", x.setting(-1, NONE, 3), 1);
        Check.fails("no such body", INDEX, () -> x.setting(0, 0, 0));
        Check.fails("no what", NO_SUCH, () -> x.setting(0, NONE, 4));
        Check.fails("no what", NO_SUCH, () -> x.setting(0, NONE, -1));
        Check.fails("both", INDEX, () -> x.setting(0, -2, 4));
        // V is 0: 20 H is (15 less H) DEEP: H 3 and DEEP 5, or H 5 and DEEP 10; U is 10: of these with P 6, DEEP 5
        Texts.harbour(x, "wall 10 from 10 to 10 top 0; thing west 10 20 0 15 15 from 0 to 9");
        x.now(1, NOON);
        Check.same("seen", x.setting(1, NONE, 0), 1);
        Check.same("seen: P", x.setting(1, NONE, 1), 6);
        Check.same("seen: H", x.setting(1, NONE, 2), 3);
        Check.same("seen: DEEP", x.setting(1, NONE, 3), 5);
        Check.same("what is not there is not seen", x.setting(1 | 1 << 9 | 1 << 15 | 1 << 31, NONE, 0), 1);
        Check.same("not told", x.setting(2, NONE, 0), 0);
        Check.same("told not to be seen", x.setting(1, 0, 0), 0);
        Texts.harbour(x, "wall 10 from west 99 to 99 top 99; thing 0 1 0 0 0 from 0 to 9");
        Check.same("both", x.setting(3, NONE, 0), 2);
        Check.same("one, and the other not", x.setting(1, 1, 0), 1);
        Check.same("one, and the other not", x.setting(3, 1, 0), 1);
        // the other's U is P and P DEEP, which is beyond - 99 for P - 10 and DEEP 9; then V of the one is above 0 from H 5 on
        Check.same("one, and the other not: P", x.setting(1, 1, 1), -10);
        Check.same("one, and the other not: H", x.setting(1, 1, 2), 5);
        Check.same("one, and the other not: DEEP", x.setting(1, 1, 3), 9);
        Check.same("holes and wall stay", x.count(2), 0);
        Check.same("holes and wall stay", x.count(11), 10);
        settingsEnds();
        WallHarbour y = Texts.with("wall 10 from west 99 to 99 top 99;thing 0 300 0 0 0 from 0 to 0");
        y.now(0, NOON);
        Check.same("it cannot be", y.setting(0, 0, 0), NOTHING);
        Check.same("it cannot be: P", y.setting(0, 0, 1), NOTHING);
        Check.same("it cannot be: H", y.setting(1, 0, 2), NOTHING);
        Check.same("it cannot be: DEEP", y.setting(-1, 0, 3), NOTHING);
        y.now(0, 0);
        Check.same("by night", y.setting(1, 0, 0), 0);
        Check.same("by night: DEEP", y.setting(1, 0, 3), 1);
    }

    /** Walls so narrow that one setting alone will do, at an end of what may be or just beyond it. */
    private static void settingsEnds() {
        // U is P and (P less X) DEEP by Y, V is H and (H less Z) DEEP by Y
        Object[][] scenes = {
            {"thing 9 1 0 0 21 from 0 to 0; wall 1 from 30 to 30 top 0", 1, 10, 20, 20},
            {"thing 0 1 0 0 2 from 0 to 0; wall 1 from west 20 to west 20 top 0", 1, -10, 1, 1},
            {"thing 10 300 0 0 5 from 0 to 0; wall 1 from 10 to 10 top 99", 1, 10, 1, 1},
            {"thing 10 20 0 0 40 from 0 to 0; wall 1 from 10 to 10 top 0", 1, 10, 8, 5},
            {"thing 11 300 0 0 5 from 0 to 0; wall 1 from 11 to 11 top 99", 0, -10, 1, 1},
            {"thing west 11 300 0 0 5 from 0 to 0; wall 1 from west 11 to west 11 top 99", 0, -10, 1, 1},
            {"thing west 10 20 0 0 42 from 0 to 0; wall 1 from 30 to 30 top 0", 0, -10, 1, 1},
            {"thing 9 1 0 0 10 from 0 to 0; wall 1 from 31 to 31 top 99", 0, -10, 1, 1},
            {"thing 0 300 0 0 0 from 0 to 0; wall 1 from west 99 to 99 top 0", 0, -10, 1, 1},
            {"thing 99 1 0 0 5 from 0 to 0; wall 1 from west 10 to 10 top 20", 0, -10, 1, 1},
        };
        for (Object[] scene : scenes) {
            WallHarbour x = Texts.with((String) scene[0]);
            x.now(0, NOON);
            for (int what = 0; what < 4; what++) {
                Check.same("setting " + what + " of " + scene[0], x.setting(1, NONE, what), (Integer) scene[1 + what]);
            }
        }
    }

    private static String lanes(WallHarbour x) {
        StringBuilder lanes = new StringBuilder();
        for (int minute = 0; minute < 13; minute++) {
            lanes.append(x.way(minute));
        }
        return lanes.toString();
    }

    private static void way() {
        WallHarbour x = new WallHarbour();
        Check.same("without a hole", x.way(NONE), 0);
        Check.same("without a hole", lanes(x), "0000000000000");
        Texts.harbour(x, "hole 0 10; wall 10 from west 99 to 99 top 99");
        Check.same("by night", x.way(NONE), 0);
        x.now(0, 360);
        Check.same("all is seen", x.way(NONE), 13);
        Check.same("all is seen", lanes(x), "0000000000000");
        x.now(0, 350);
        Check.same("three minutes of light", x.way(NONE), 3);
        x.now(0, 1075);
        Check.same("five minutes of light", x.way(NONE), 5);
        Texts.harbour(x, "fog 60");
        x.now(0, NOON);
        Check.same("in the fog", x.way(NONE), 0);
        Check.same("in the fog", lanes(x), "3333333333333");
        Texts.harbour(x, "fog 120; wall 10 from west 4 to 4 top 99");
        // a lane at Y is on the wall, where X is at most 0.4 Y: 20: -8 to 8, 40: 16, 60: 24, 80: 32, 100: 40, 120: 48
        Check.same("on the wall", x.way(NONE), 1);
        Check.same("on the wall", lanes(x), "0000000000000");
        Check.fails("no minute", NO_SUCH, () -> x.way(13));
        Check.fails("no minute", NO_SUCH, () -> x.way(-2));
        x.now(0, 1427);
        Check.same("to the day's end", x.way(12), 0);
        x.now(0, 1428);
        Check.fails("beyond the day", NO_SUCH, () -> x.way(NONE));
        Check.fails("beyond the day", NO_SUCH, () -> x.way(0));
    }

    private static void wayAmongBodies() {
        // the line from 0, 2 to X, 0 at 120 is at 110: X 11 by 12, 1 by 6: in the last lane X - 20 to 20 are hidden
        WallHarbour x = Texts.with("hole 0 2; wall 10 from west 99 to 99 top 99; thing 0 110 20 0 1 from 0 to 9");
        x.now(0, NOON);
        Check.same("behind a thing", x.way(NONE), 8);
        Check.same("behind a thing", lanes(x), "1234555554321");
        Texts.harbour(x, "hole 50 2");
        // its line is at X 11 by 12 and 50 by 12: by both are hidden - 20 to 10
        Check.same("seen by the other hole", x.way(NONE), 9);
        x.now(10, NOON);
        Check.same("it is gone", x.way(NONE), 13);
        Check.same("it is gone", lanes(x), "0000000000000");

        // in the first lane the line is at 10: X by 2, 1
        WallHarbour y = Texts.with("hole 0 2; wall 10 from west 99 to 99 top 99; ship 0 10 20 1 1 pace 0 from 724 to 728");
        y.now(0, NOON);
        Check.same("behind a ship", y.way(NONE), 8);
        Check.same("behind a ship", lanes(y), "0000000000000");
        y.now(0, NOON + 1);
        Check.same("a minute later", y.way(NONE), 8);
        y.now(0, NOON + 7);
        Check.same("too late", y.way(NONE), 13);
        Texts.harbour(y, "tide 0 1");
        y.now(0, NOON);
        Check.same("above the line", y.way(NONE), 13);
        Texts.harbour(y, "ship 30 10 5 0 0 pace 0 from 726 to 732");
        Check.same("lifted", y.way(NONE), 11);
    }

    private static void met() {
        WallHarbour x = Texts.with("hole 0 10; thing 10 100 0 0 20 from 0 to 5; ship 0 50 2 0 20 pace 1 from 2 to 9;"
                + "ship 100 50 2 0 20 pace west 1 from 0 to 1439; hole 50 10");
        // the line is at 5, 15: the ship is there from minute 3 to 7
        Check.same("first", x.met(0, 10, 0), 3);
        Check.same("the other way", x.met(10, 0, 0), 3);
        x.now(0, 5);
        Check.same("from now on", x.met(0, 10, 0), 5);
        x.now(0, 7);
        Check.same("the last", x.met(0, 10, 0), 7);
        x.now(0, 8);
        Check.same("gone by", x.met(0, 10, 0), NONE);
        Check.same("another ship", x.met(11, 0, 0), 93);
        Check.same("of one Y", x.met(11, 10, 0), NONE);
        x.now(6, 0);
        Check.same("the thing is not there", x.met(0, 10, 0), NONE);
        x.now(5, 0);
        Check.same("by another hole", x.met(0, 10, 1), NONE);
        Texts.harbour(x, "cloud 0; fog 1; wall 10 from 90 to 99 top 0");
        Check.same("light, fog and wall are nothing to it", x.met(0, 10, 0), 3);
        Check.same("now stays", x.now(0, 0), 5 * 1440);
        Check.fails("no body", INDEX, () -> x.met(0, 1, 0));
        Check.fails("no body", INDEX, () -> x.met(12, 0, 0));
        Check.fails("no hole", INDEX, () -> x.met(0, 10, 2));
        Check.fails("no hole", INDEX, () -> x.met(0, 0, 2));
        Check.fails("both are one", ILLEGAL, () -> x.met(10, 10, 0));
        WallHarbour y = Texts.with("hole 0 10; thing 10 100 0 0 20 from 0 to 5; ship 5 50 0 0 6 pace 0 from 0 to 1439;"
                + "tide 11 9; moon 1");
        Check.same("when the tide lifts it", y.met(0, 10, 0), 660);
        y.now(1, 0);
        Check.same("a day later", y.met(0, 10, 0), 600);
        y.now(1, 1380);
        Check.same("up to the last minute", y.met(0, 10, 0), NONE);
        Texts.harbour(y, "tide 0 9");
        Check.same("up to the last minute", y.met(0, 10, 0), 1380);
        Texts.harbour(y, "tide 0 0; ship west 914 50 0 0 20 pace 1 from 0 to 1439");
        y.now(1, 0);
        Check.same("a ship from the west", y.met(11, 0, 0), 919);
        WallHarbour z = Texts.with("hole 0 10; thing 10 100 0 0 20 from 0 to 5; ship 5 50 0 0 20 pace 0 from 1439 to 1439");
        Check.same("at the last minute", z.met(0, 10, 0), 1439);
    }

    private static void imageAndBack() {
        WallHarbour x = Texts.with("hole 1 2; thing 1 2 3 4 5 from 6 to 7; ship 8 9 10 11 12 pace 1 from 2 to 3; wall 4 from 5 to 6 top 7;"
                + "cloud 8; fog 9; moon 10; tide 11 1");
        Texts.law(x, "charge 5 if far < 3");
        x.now(6, 7);
        x.trace(1, 2, 0, 3, 4);
        String before = Portrait.of(x);
        x.image();
        Check.same("as it was", Portrait.of(x), before);
        Texts.harbour(x, "hole 2 3; thing 9 9 9 9 9 from 9 to 9; ship 9 9 9 9 9 pace 9 from 9 to 9; wall 9 from 9 to 9 top 9;"
                + "clear; fog 99; moon 9; tide 9 9");
        Texts.law(x, "charge 1; charge 2");
        x.now(9, 9);
        x.undo();
        x.trace(5, 5, 1, 5, 5);
        x.trace(6, 6, 1, 6, 6);
        String after = Portrait.of(x);
        Texts.harbourFault(x, "fog 0");
        Texts.feed(x, "fog 77");
        Check.same("back", x.back(), true);
        Check.same("as it was", Portrait.of(x), before);
        Check.same("but for the fault", x.fault(), 4);
        Check.same("and the tape", x.end(6), true);
        Check.same("texts are counted from there", x.harbour(), 2);
        Check.same("the tape's text", x.count(9), 77);
        Check.same("back again", x.back(), true);
        Check.same("as it was", Portrait.of(x), before);
        Texts.harbour(x, "moon 1");
        x.image();
        Texts.harbour(x, "moon 2");
        Check.same("back to the later image", x.back(), true);
        Check.same("of the later image", x.count(10), 1);
        Check.tell(!after.equals(before), "something came between");
        Check.same("back of a new one", new WallHarbour().back(), false);
        WallHarbour y = new WallHarbour();
        y.image();
        Texts.harbour(y, "hole 1 1");
        Texts.law(y, "charge 1");
        y.back();
        Check.same("back to nothing", y.count(2), 0);
        Check.same("back to no law", y.count(4), NONE);
    }

    private static void readmesExample() {
        WallHarbour room = new WallHarbour();
        room.feed(0x686f6c65, 0x20302031, 0x303b7468, 0x696e6720, 0x31302031);
        room.feed(0x30302030, 0x20302032, 0x30206672, 0x6f6d2030, 0x20746f20);
        room.feed(0x35300000, 0, 0, 0, 0);
        Check.same("end", room.end(42), true);
        Check.same("harbour", room.harbour(), 1);
        Check.same("now", room.now(3, 720), 0);
        Check.same("seen", room.seen(0, 0), true);
        Check.same("spot", room.spot(0, 0, true, 0), 9);
        Check.same("draw", room.draw(0, 0), 0);
    }

    private static void count() {
        WallHarbour x = Texts.with("hole 1 1; thing 1 1 1 1 1 from 1 to 1; thing 1 1 1 1 1 from 1 to 1", "clear",
                "ship 1 1 1 1 1 pace 1 from 1 to 1; cloud 6 17 ; fog 44; moon 7; wall 3 from west 4 to 5 top 6");
        Texts.law(x, "charge 1; charge 2; charge 3");
        x.trace(0, 0, 0, 0, 0);
        x.now(8, 420);
        int[] due = {2, 1, 1, 3, 3, 8, 420, 1, 1 << 6 | 1 << 17, 44, 7, 3, -4, 5, 6, 1};
        for (int what = 0; what < due.length; what++) {
            Check.same("count " + what, x.count(what), due[what]);
        }
        int[] others = {-1, 16, 17, 1000, Integer.MIN_VALUE, Integer.MAX_VALUE};
        for (int what : others) {
            Check.same("count of another", x.count(what), NOTHING);
        }
        int[][] lights = {{359, 0}, {360, 0}, {419, 0}, {420, 1}, {1019, 1}, {1020, 0}, {1080, 0}, {0, 0}, {1439, 0}};
        for (int[] row : lights) {
            x.now(0, row[0]);
            Check.same("light at " + row[0], x.count(15), row[1]);
        }
        Texts.harbour(x, "clear");
        int[][] clear = {{359, 0}, {360, 1}, {1079, 1}, {1080, 0}};
        for (int[] row : clear) {
            x.now(0, row[0]);
            Check.same("light at " + row[0], x.count(15), row[1]);
        }
    }
}
