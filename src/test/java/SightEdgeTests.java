/** A test of its own for each sentence about what is there, in light, on the wall, hidden, charged and lifted, at its edges. */
public final class SightEdgeTests {
    private static final int NONE = WallHarbour.NONE;
    private static final int NOON = 720;

    public static void main(String[] args) {
        atFirst();
        lastCall();
        nowAndBefore();
        thereWithinDays();
        thereWithinMinutes();
        light();
        clouds();
        fog();
        sideEndsOfTheWall();
        highEndsOfTheWall();
        wallOfOnePoint();
        lesserY();
        hidersSides();
        hidersHeights();
        hidersFractions();
        hidersByASideHole();
        onlyWhatIsThereHides();
        hiderWhateverIsSeen();
        leastHider();
        tideWrapsAround();
        tideLiftsShips();
        tideOfTheHour();
        spotsRoundedDown();
        spotsLeastNumbers();
        chargeOfWhatIsNotThere();
        factsOfTheLaw();
        seenBySomeHole();
        chargesAtEachHour();
        chargesOfAllBodies();
        met();
        metOfOneY();
        image();
        latestImage();
        imageOfATracing();
        imageOfNothing();
        counts();
        Check.finish("SightEdgeTests");
    }

    /** "As told at first; nothing is there." */
    private static void atFirst() {
        int[] due = {0, 0, 0, 0, NONE, 0, 0, 0, 0, 300, 0, 10, -20, 20, 20, 0};
        WallHarbour x = new WallHarbour();
        for (int what = 0; what < due.length; what++) {
            Check.same("at first " + what, x.count(what), due[what]);
        }
        for (int minute = 0; minute < 1440; minute++) {
            int day = minute % 1000;
            if (minute % 60 == 0 || minute % 60 == 59) {
                Check.same("tide at first", x.tide(day, minute), 0);
            }
        }
        Check.same("charges at first", x.charges(0), 0);
        Check.same("way at first", x.way(NONE), 0);
        Check.same("undo at first", x.undo(), NONE);
        Check.same("back at first", x.back(), false);
        Check.same("fault at first", x.fault(), NONE);
    }

    /** "An object is used for at most 512 calls": the 512th still answers. */
    private static void lastCall() {
        WallHarbour x = new WallHarbour();
        for (int call = 1; call <= 512; call++) {
            int due = call == 1 ? 0 : 1440 * ((call - 1) % 1000) + call - 1;
            Check.same("call " + call, x.now(call % 1000, call), due);
        }
    }

    /** "NOW: DAY and minute (0 each at first)"; "1440 times the DAY and the minute that were". */
    private static void nowAndBefore() {
        WallHarbour x = new WallHarbour();
        int[][] times = {{0, 0}, {0, 1439}, {999, 0}, {999, 1439}, {1, 1}};
        int before = 0;
        for (int[] time : times) {
            Check.same("before " + time[0] + " " + time[1], x.now(time[0], time[1]), before);
            Check.same("day", x.count(5), time[0]);
            Check.same("minute", x.count(6), time[1]);
            before = 1440 * time[0] + time[1];
        }
    }

    /** "A BODY is THERE, if DAY (of a THING) is within its two", both of them too. */
    private static void thereWithinDays() {
        int[][] spans = {{0, 0}, {0, 999}, {999, 999}, {400, 500}, {400, 400}};
        for (int[] span : spans) {
            WallHarbour x = Texts.with("thing 0 1 0 0 0 from " + span[0] + " to " + span[1]);
            for (int day : new int[] {0, 1, 399, 400, 401, 499, 500, 501, 998, 999}) {
                for (int minute : new int[] {0, 1439}) {
                    x.now(day, minute);
                    Check.same("there " + span[0] + " to " + span[1] + " at " + day, x.body(0, 7),
                            span[0] <= day && day <= span[1] ? 1 : 0);
                }
            }
        }
    }

    /** "or the minute (of a SHIP), is within its two", both of them too, each DAY. */
    private static void thereWithinMinutes() {
        int[][] spans = {{0, 0}, {0, 1439}, {1439, 1439}, {400, 500}, {400, 400}};
        for (int[] span : spans) {
            WallHarbour x = Texts.with("ship 0 1 0 0 0 pace 0 from " + span[0] + " to " + span[1]);
            for (int minute : new int[] {0, 1, 399, 400, 401, 499, 500, 501, 1438, 1439}) {
                for (int day : new int[] {0, 999}) {
                    x.now(day, minute);
                    Check.same("there " + span[0] + " to " + span[1] + " at " + minute, x.body(10, 7),
                            span[0] <= minute && minute <= span[1] ? 1 : 0);
                }
            }
        }
    }

    /** "LIGHT: hours 6 to 17". */
    private static void light() {
        WallHarbour x = Texts.with("hole 0 10; thing 0 50 0 0 10 from 0 to 999");
        int[] minutes = {0, 299, 300, 359, 360, 361, 419, 420, NOON, 1019, 1020, 1079, 1080, 1081, 1439};
        for (int minute : minutes) {
            for (int day : new int[] {0, 500, 999}) {
                x.now(day, minute);
                boolean isLight = minute >= 360 && minute <= 1079;
                Check.same("light at " + minute, x.count(15), isLight ? 1 : 0);
                Check.same("seen at " + minute, x.seen(0, 0), isLight);
            }
        }
    }

    /** "that are not of CLOUDS", "hours as bits (0 to 23), each DAY alike". */
    private static void clouds() {
        for (int hour = 0; hour < 24; hour++) {
            WallHarbour x = Texts.with("hole 0 10; thing 0 50 0 0 10 from 0 to 999; cloud " + hour);
            Check.same("bits", x.count(8), 1 << hour);
            for (int minute : new int[] {360, 60 * hour - 1, 60 * hour, 60 * hour + 59, 60 * hour + 60, 1079}) {
                if (minute >= 0 && minute < 1440) {
                    x.now(hour * 40, minute);
                    boolean isLight = minute >= 360 && minute <= 1079 && minute / 60 != hour;
                    Check.same("clouds of " + hour + " at " + minute, x.seen(0, 0), isLight);
                    Check.same("clouds of " + hour + " at " + minute, x.count(15), isLight ? 1 : 0);
                }
            }
        }
    }

    /** "FOG: what is farther (Y) is not to be seen (300 at first)"; "Y is not beyond FOG". */
    private static void fog() {
        int[] far = {1, 2, 150, 299, 300};
        for (int y : far) {
            WallHarbour x = Texts.with("hole 0 10; thing 0 " + y + " 0 0 10 from 0 to 0");
            x.now(0, NOON);
            Check.same("without fog at " + y, x.seen(0, 0), true);
            for (int fog : new int[] {1, y - 1, y, y + 1, 300}) {
                if (fog >= 1 && fog <= 300 && x.count(3) < 10) {
                    Texts.harbour(x, "fog " + fog);
                    Check.same("fog " + fog + ", Y " + y, x.seen(0, 0), y <= fog);
                }
            }
        }
    }

    /** "U and V of its TIP are on the WALL (ends too)", "it goes from U LEFT to RIGHT". */
    private static void sideEndsOfTheWall() {
        // at Y 10 and DEEP 10 U is 2 P less X, at Y 20 it is P and (P less X) by 2
        Object[][] rows = {{"20 10", true}, {"21 10", false}, {"west 20 10", true}, {"west 21 10", false},
            {"40 20", true}, {"41 20", false}, {"west 40 20", true}, {"west 41 20", false}, {"39 20", true}, {"west 39 20", true},
            {"99 49", false}, {"99 50", true}, {"west 99 49", false}, {"west 99 50", true}};
        for (Object[] row : rows) {
            String end = (String) row[0];
            WallHarbour x = Texts.with("hole 0 10; thing " + end + " 0 0 10 from 0 to 0");
            x.now(0, NOON);
            Check.same("on the wall: " + end, x.seen(0, 0), (Boolean) row[1]);
        }
        WallHarbour narrow = Texts.with("hole 5 10; wall 10 from 3 to 7 top 20; thing 3 10 0 0 10 from 0 to 0;"
                + "thing 7 10 0 0 10 from 1 to 1; thing 2 10 0 0 10 from 2 to 2; thing 8 10 0 0 10 from 3 to 3;"
                + "thing 2 15 0 0 10 from 4 to 4; thing 8 15 0 0 10 from 5 to 5; thing 1 15 0 0 10 from 6 to 6");
        boolean[] due = {true, true, false, false, true, true, false};
        for (int i = 0; i < due.length; i++) {
            narrow.now(i, NOON);
            Check.same("on a narrow wall " + i, narrow.seen(i, 0), due[i]);
        }
    }

    /** "V 0 to TOP", ends too. */
    private static void highEndsOfTheWall() {
        // at Y 10, H 10 and DEEP 10 V is 20 less HIGH, at Y 20 it is 15 less HIGH by 2
        Object[][] rows = {{"10 0 0 20", 20, true}, {"10 0 0 21", 20, false}, {"10 0 0 0", 20, true}, {"10 0 0 0", 19, false},
            {"10 0 0 1", 19, true}, {"20 0 0 30", 20, true}, {"20 0 0 31", 20, false}, {"20 0 0 1", 14, false}, {"20 0 0 2", 14, true},
            {"10 0 0 20", 0, true}, {"10 0 0 19", 0, false}, {"20 0 0 29", 0, false}, {"10 0 20 20", 0, true}};
        for (Object[] row : rows) {
            WallHarbour x = Texts.with("hole 0 10; wall 10 from west 20 to 20 top " + row[1] + ";thing 0 " + row[0] + " from 0 to 0");
            x.now(0, NOON);
            Check.same("on the wall: " + row[0] + ", top " + row[1], x.seen(0, 0), (Boolean) row[2]);
        }
    }

    /** "RIGHT not below", TOP 0: a wall may be one point. */
    private static void wallOfOnePoint() {
        WallHarbour x = Texts.with("hole 0 10; wall 10 from 0 to 0 top 0; thing 0 10 0 0 20 from 0 to 0; thing 1 10 0 0 20 from 0 to 0;"
                + "thing west 1 300 0 0 99 from 0 to 0; thing 0 11 0 0 20 from 1 to 1; thing 0 11 0 0 21 from 1 to 1");
        x.now(0, NOON);
        Check.same("the point", x.seen(0, 0), true);
        Check.same("beside it", x.seen(1, 0), false);
        Check.same("a little beside it", x.seen(2, 0), false);
        x.now(1, NOON);
        Check.same("a little above it", x.seen(3, 0), false);
        Check.same("on it", x.seen(4, 0), true);
    }

    /** "of lesser Y": nothing of the same Y, nor a body itself, hides it. */
    private static void lesserY() {
        WallHarbour x = Texts.with("hole 0 10; thing 0 50 20 0 99 from 0 to 0; thing 0 50 20 0 99 from 0 to 0;"
                + "ship 0 50 20 0 99 pace 0 from 0 to 1439; wall 10 from west 99 to 99 top 99; thing 0 51 0 0 10 from 0 to 0;"
                + "thing 0 49 0 0 0 from 0 to 0; hole 0 50; thing 0 1 0 0 50 from 9 to 9; thing 0 2 0 0 50 from 9 to 9");
        for (int body : new int[] {0, 1, 10}) {
            Check.same("of the same Y: " + body, x.hider(body, 0), NONE);
        }
        Check.same("one less", x.hider(2, 0), 0);
        Check.same("farther ones hide none", x.hider(3, 0), NONE);
        x.now(9, NOON);
        Check.same("Y 1 hides Y 2", x.hider(5, 1), 4);
        Check.same("Y 2 does not hide Y 1", x.hider(4, 1), NONE);
        Check.same("Y 1 is seen", x.seen(4, 1), true);
        Check.same("Y 2 is not", x.seen(5, 1), false);
    }

    /** "the line, at that Y, is from X less WIDE to X and WIDE (ends too)". */
    private static void hidersSides() {
        // the line from 0, 10 to - 30, 40 at 300 is at 100: - 10, 20
        Object[][] rows = {{"thing west 12 100 2", 1}, {"thing west 13 100 2", NONE}, {"thing west 8 100 2", 1},
            {"thing west 7 100 2", NONE}, {"thing west 10 100 0", 1}, {"thing west 9 100 0", NONE}, {"thing west 11 100 0", NONE},
            {"thing 10 100 20", 1}, {"thing 11 100 20", NONE}, {"thing west 30 100 20", 1}, {"thing west 31 100 20", NONE}};
        for (Object[] row : rows) {
            hides((String) row[0] + " 0 99 from 0 to 0", (Integer) row[1]);
        }
    }

    /** "and from LOW to HIGH (ends too)". */
    private static void hidersHeights() {
        Object[][] rows = {{"20 99", 1}, {"21 99", NONE}, {"0 20", 1}, {"0 19", NONE}, {"20 20", 1}, {"19 19", NONE}, {"21 21", NONE},
            {"0 99", 1}, {"99 99", NONE}, {"0 0", NONE}};
        for (Object[] row : rows) {
            hides("thing west 10 100 0 " + row[0] + " from 0 to 0", (Integer) row[1]);
        }
        Object[][] ships = {{"0 15; tide 0 5", 10}, {"0 15; tide 0 4", NONE}, {"15 20; tide 0 5", 10}, {"15 20; tide 0 6", NONE},
            {"25 29; tide 0 low 5", 10}, {"25 29; tide 0 low 4", NONE}, {"25 29; tide 0 low 9", 10}, {"0 28; tide 0 low 9", NONE}};
        for (Object[] row : ships) {
            String ship = (String) row[0];
            int end = ship.indexOf(';');
            hides("ship west 10 100 0 " + ship.substring(0, end) + " pace 0 from 0 to 0" + ship.substring(end), (Integer) row[1]);
        }
    }

    /** The line's place at a Y may be a fraction, which is not rounded. */
    private static void hidersFractions() {
        // at 101: - 10.1, 20.1; at 99: - 9.9, 19.9; at 299: - 29.9, 39.9; at 1: - 0.1, 10.1
        Object[][] rows = {{"thing west 10 101 0 0 99", NONE}, {"thing west 11 101 0 0 99", NONE}, {"thing west 11 101 1 0 99", 1},
            {"thing west 9 101 1 0 99", NONE}, {"thing west 10 101 1 0 20", NONE}, {"thing west 10 101 1 0 21", 1},
            {"thing west 10 101 1 20 21", 1}, {"thing west 10 101 1 21 99", NONE}, {"thing west 9 99 0 0 99", NONE},
            {"thing west 9 99 1 0 99", 1}, {"thing west 11 99 1 0 99", NONE}, {"thing west 10 99 1 20 99", NONE},
            {"thing west 10 99 1 19 99", 1}, {"thing west 10 99 1 0 19", NONE}, {"thing west 30 299 0 0 99", NONE},
            {"thing west 30 299 1 0 40", 1}, {"thing west 30 299 1 0 39", NONE}, {"thing 0 1 0 0 99", NONE}, {"thing 0 1 1 0 11", 1},
            {"thing 0 1 1 11 99", NONE}, {"thing 1 1 1 0 99", NONE}};
        for (Object[] row : rows) {
            hides((String) row[0] + " from 0 to 0", (Integer) row[1]);
        }
    }

    /** The line begins at the HOLE: by one at - 50 and one at 50 what hides is elsewhere. */
    private static void hidersByASideHole() {
        // the lines from - 50, 10 and from 50, 40 to 10, 20 at 100 are at 25: - 35, 12.5 and 40, 35; at 50: - 20, 15 and 30, 30
        Object[][] rows = {{"west 37 25 2 12 13", 1, NONE}, {"west 38 25 2 12 13", NONE, NONE}, {"west 33 25 2 12 13", 1, NONE},
            {"west 32 25 2 12 13", NONE, NONE}, {"38 25 2 35 35", NONE, 1}, {"37 25 2 35 35", NONE, NONE}, {"42 25 2 35 35", NONE, 1},
            {"43 25 2 35 35", NONE, NONE}, {"40 25 0 34 34", NONE, NONE}, {"west 20 50 0 15 15", 1, NONE}, {"30 50 0 30 30", NONE, 1},
            {"west 20 50 0 30 30", NONE, NONE}, {"30 50 0 15 15", NONE, NONE}, {"west 35 25 0 13 99", NONE, NONE}};
        for (Object[] row : rows) {
            WallHarbour x = Texts.with("hole west 50 10; hole 50 40; thing 10 100 0 0 20 from 0 to 0; thing " + row[0] + " from 0 to 0");
            Check.same("by the hole at - 50: " + row[0], x.hider(0, 0), (Integer) row[1]);
            Check.same("by the hole at 50: " + row[0], x.hider(0, 1), (Integer) row[2]);
            Check.same("met by the hole at - 50: " + row[0], x.met(0, 1, 0), (Integer) row[1] == NONE ? NONE : 0);
            Check.same("met by the hole at 50: " + row[0], x.met(0, 1, 1), (Integer) row[2] == NONE ? NONE : 0);
        }
    }

    private static void hides(String near, int due) {
        WallHarbour x = Texts.with("hole 0 10; thing west 30 300 0 0 40 from 0 to 0;" + near);
        Check.same("hider: " + near, x.hider(0, 0), due);
        x.now(0, NOON);
        if (!near.startsWith("ship")) {
            Check.same("seen behind: " + near, x.seen(0, 0), due == NONE);
        }
    }

    /** "no other BODY that is THERE HIDES it". */
    private static void onlyWhatIsThereHides() {
        WallHarbour x = Texts.with("hole 0 10; thing 0 100 0 0 10 from 0 to 999; thing 0 50 0 0 10 from 3 to 5;"
                + "ship west 700 60 0 0 10 pace 1 from 699 to 701");
        int[][] rows = {{2, 600, NONE}, {3, 600, 1}, {5, 600, 1}, {6, 600, NONE}, {2, 699, NONE}, {2, 700, 10}, {2, 701, NONE},
            {4, 700, 1}, {999, 700, 10}};
        for (int[] row : rows) {
            x.now(row[0], row[1]);
            Check.same("hider at " + row[0] + " " + row[1], x.hider(0, 0), row[2]);
            Check.same("seen at " + row[0] + " " + row[1], x.seen(0, 0), row[2] == NONE);
        }
    }

    /** "HIDER: (whether or not it is THERE, or on the WALL, and there is LIGHT); none." */
    private static void hiderWhateverIsSeen() {
        WallHarbour x = Texts.with("hole 0 10; thing 0 100 0 0 10 from 5 to 5; thing 0 50 0 0 10 from 0 to 9");
        Check.same("neither there nor light", x.hider(0, 0), 1);
        x.now(5, 0);
        Check.same("there by night", x.hider(0, 0), 1);
        x.now(4, NOON);
        Check.same("not there by day", x.hider(0, 0), 1);
        Texts.harbour(x, "wall 50 from 98 to 99 top 0; fog 1; cloud 12");
        Check.same("not on the wall, in fog and clouds", x.hider(0, 0), 1);
        x.now(10, NOON);
        Check.same("none", x.hider(0, 0), NONE);
        Check.same("none of the nearest", x.hider(1, 0), NONE);
    }

    /** "the least BODY that HIDES it": by its number, things ahead of ships, however near. */
    private static void leastHider() {
        WallHarbour x = Texts.with("hole 0 10; thing 0 90 0 0 10 from 3 to 3; thing 0 10 0 0 10 from 2 to 3;"
                + "ship 0 5 0 0 10 pace 0 from 0 to 1439; ship 0 1 0 0 10 pace 0 from 0 to 1439; thing 0 100 0 0 10 from 0 to 0");
        int[] due = {10, 10, 1, 0};
        for (int day = 0; day < due.length; day++) {
            x.now(day, 0);
            Check.same("least hider on day " + day, x.hider(2, 0), due[day]);
        }
        Check.same("of a thing ahead of it", x.hider(1, 0), 10);
        Check.same("of a ship", x.hider(10, 0), 11);
        Check.same("of the nearest", x.hider(11, 0), NONE);
    }

    /** "TIDE of a DAY and a minute: that of (hour and MOON times DAY) modulo 12". */
    private static void tideWrapsAround() {
        String levels = "tide 0 0; tide 1 1; tide 2 2; tide 3 3; tide 4 4; tide 5 5; tide 6 6; tide 7 7; tide 8 8; tide 9 9;"
                + "tide 10 low 8; tide 11 low 9";
        int[][] rows = {{0, 0, 0, 0}, {0, 0, 660, -9}, {0, 0, 720, 0}, {0, 0, 1439, -9}, {0, 999, 1379, -8}, {1, 11, 59, -9},
            {1, 11, 60, 0}, {1, 12, 0, 0}, {1, 11, 1439, -8}, {11, 1, 0, -9}, {11, 1, 60, 0}, {11, 11, 0, 1}, {11, 12, 0, 0},
            {11, 999, 0, 9}, {11, 999, 120, -9}, {11, 999, 180, 0}, {11, 999, 1439, 8}, {6, 1, 300, -9}, {6, 1, 360, 0},
            {6, 2, 0, 0}, {6, 999, 0, 6}, {7, 500, 0, 8}, {10, 998, 660, 7}};
        for (int[] row : rows) {
            WallHarbour x = Texts.with(levels, "moon " + row[0]);
            Check.same("moon " + row[0] + ", day " + row[1] + ", minute " + row[2], x.tide(row[1], row[2]), row[3]);
        }
    }

    /** "LOW and HIGH of SHIPS are TIDE more": below 0 and above 99 too; those of things stay. */
    private static void tideLiftsShips() {
        WallHarbour x = Texts.with("thing 0 1 0 0 99 from 0 to 0; ship 0 1 0 0 99 pace 0 from 0 to 0; tide 0 low 9; tide 1 9; moon 1");
        int[][] rows = {{0, 0, -9, 90}, {0, 59, -9, 90}, {0, 60, 9, 108}, {0, 119, 9, 108}, {0, 120, 0, 99}, {1, 0, 9, 108},
            {11, 60, -9, 90}, {12, 60, 9, 108}, {2, 0, 0, 99}};
        for (int[] row : rows) {
            x.now(row[0], row[1]);
            Check.same("ship's LOW", x.body(10, 3), row[2]);
            Check.same("ship's HIGH", x.body(10, 4), row[3]);
            Check.same("thing's LOW", x.body(0, 3), 0);
            Check.same("thing's HIGH", x.body(0, 4), 99);
        }
    }

    /** "hour: minute by 60, rounded down". */
    private static void tideOfTheHour() {
        WallHarbour x = Texts.with("tide 5 7; tide 0 3");
        int[][] rows = {{0, 3}, {59, 3}, {60, 0}, {299, 0}, {300, 7}, {359, 7}, {360, 0}, {719, 0}, {720, 3}, {779, 3}, {780, 0},
            {1020, 7}, {1079, 7}, {1080, 0}, {1439, 0}};
        for (int[] row : rows) {
            Check.same("tide at " + row[0], x.tide(0, row[0]), row[1]);
        }
    }

    /** "what 0 rounded down": below 0 too. */
    private static void spotsRoundedDown() {
        // U is - 10 X by 3, V is 10 and 10 (10 less HIGH) by 3
        int[][] rows = {{0, 10, 0, 10}, {1, 11, -4, 6}, {-1, 9, 3, 13}, {3, 13, -10, 0}, {2, 14, -7, -4}, {-2, 12, 6, 3},
            {99, 99, -330, -287}, {-99, 0, 330, 43}};
        for (int[] row : rows) {
            String side = row[0] < 0 ? "west " + -row[0] : "" + row[0];
            WallHarbour x = Texts.with("hole 0 10; thing " + side + " 3 0 0 " + row[1] + " from 0 to 0");
            Check.same("U of " + side, x.spot(0, 0, false, 0), row[2]);
            Check.same("V of " + row[1], x.spot(0, 0, true, 0), row[3]);
        }
    }

    /** "of the fraction, in its least numbers (the one below above 0)". */
    private static void spotsLeastNumbers() {
        // U is - X by 30 as DEEP is 10 and Y 300, V is 50 and (50 less HIGH) by 30
        int[][] rows = {{0, 50, 0, 1, 50, 1}, {30, 80, -1, 1, 49, 1}, {-30, 20, 1, 1, 51, 1}, {1, 51, -1, 30, 1499, 30},
            {-99, 99, 33, 10, 1451, 30}, {6, 44, -1, 5, 251, 5}, {-15, 65, 1, 2, 99, 2}, {90, 0, -3, 1, 155, 3}};
        for (int[] row : rows) {
            String side = row[0] < 0 ? "west " + -row[0] : "" + row[0];
            WallHarbour x = Texts.with("hole 0 50; thing " + side + " 300 0 0 " + row[1] + " from 0 to 0");
            for (int what = 1; what <= 2; what++) {
                Check.same("U of " + side, x.spot(0, 0, false, what), row[1 + what]);
                Check.same("V of " + row[1], x.spot(0, 0, true, what), row[3 + what]);
            }
        }
        // by a wall 1 behind U is - X by Y, V is 10 and (10 less HIGH) by Y
        int[][] near = {{7, 3, 12, -7, 3, 28, 3}, {-99, 299, 99, 99, 299, 2901, 299}, {99, 1, 99, -99, 1, -79, 1}, {1, 300, 11, -1, 300, 2999, 300},
            {-98, 99, 0, 98, 99, 1000, 99}, {64, 48, 26, -4, 3, 29, 3}};
        for (int[] row : near) {
            String side = row[0] < 0 ? "west " + -row[0] : "" + row[0];
            WallHarbour x = Texts.with("wall 1 from 0 to 0 top 0; hole 0 10; thing " + side + " " + row[1] + " 0 0 " + row[2]
                    + " from 0 to 0");
            for (int what = 1; what <= 2; what++) {
                Check.same("U of " + side + " at " + row[1], x.spot(0, 0, false, what), row[2 + what]);
                Check.same("V of " + row[2] + " at " + row[1], x.spot(0, 0, true, what), row[4 + what]);
            }
        }
        WallHarbour zero = Texts.with("hole 0 10; thing 0 10 0 0 20 from 0 to 0");
        Check.same("V 0, above", zero.spot(0, 0, true, 1), 0);
        Check.same("V 0, below", zero.spot(0, 0, true, 2), 1);
        Check.same("V 0", zero.spot(0, 0, true, 0), 0);
        WallHarbour far = Texts.with("hole west 50 1; wall 50 from 0 to 0 top 0; ship 999 7 0 0 0 pace 9 from 0 to 0");
        far.now(0, 1439);
        // U is - 50 less 14000 times 50 by 7, which is whole
        Check.same("a ship far away", far.spot(10, 0, false, 1), -100050);
        Check.same("a ship far away", far.spot(10, 0, false, 2), 1);
    }

    /** "CHARGE now (0 of one that is not THERE)". */
    private static void chargeOfWhatIsNotThere() {
        WallHarbour x = Texts.with("thing 0 1 0 0 0 from 4 to 5; ship 0 1 0 0 0 pace 0 from 4 to 5");
        Texts.law(x, "charge 3");
        int[][] rows = {{3, 3, 0, 0}, {4, 3, 3, 0}, {5, 3, 3, 0}, {6, 4, 0, 3}, {6, 5, 0, 3}, {6, 6, 0, 0}, {4, 4, 3, 3}};
        for (int[] row : rows) {
            x.now(row[0], row[1]);
            Check.same("thing's charge", x.charge(0), row[2]);
            Check.same("ship's charge", x.charge(10), row[3]);
        }
    }

    /** "far: Y; tall: HIGH less LOW; body: its number", and the least more and less of each. */
    private static void factsOfTheLaw() {
        WallHarbour x = Texts.with("thing 7 123 4 50 99 from 0 to 999; thing 7 300 20 0 0 from 0 to 999; thing 0 1 0 0 99 from 0 to 999;"
                + "ship 7 45 6 50 59 pace 0 from 0 to 1439; ship 7 1 0 0 99 pace 0 from 0 to 1439; tide 3 low 9; moon 1");
        x.now(987, 1439);
        int[][] facts = {{0, 123, 4, 49}, {1, 300, 20, 0}, {2, 1, 0, 99}, {10, 45, 6, 9}, {11, 1, 0, 99}};
        String[] names = {"body", "far", "wide", "tall", "hour", "day"};
        for (int[] fact : facts) {
            for (int name = 0; name < names.length; name++) {
                int value = name < 4 ? fact[name] : name == 4 ? 23 : 987;
                String word = names[name];
                Texts.law(x, "charge 1 if " + word + ">" + value + ";charge 2 if " + word + "<" + value + ";charge 4 if " + word + "<"
                        + (value + 1) + ";charge 8 if " + word + "+1>" + value + ";charge 16 if " + value + "<" + word
                        + "; charge 32 if " + value + "<" + word + "+1");
                Check.same(word + " of body " + fact[0], x.charge(fact[0]), 4 + 8 + 32);
            }
            Texts.law(x, "charge 1 if ship;charge 2 if not ship");
            Check.same("ship of body " + fact[0], x.charge(fact[0]), fact[0] >= 10 ? 1 : 2);
        }
        x.now(0, 0);
        Texts.law(x, "charge 1 if hour < 1; charge 2 if day < 1; charge 4 if 0 < hour or 0 < day");
        Check.same("hour and day 0", x.charge(0), 3);
    }

    /** "seen: by some HOLE". */
    private static void seenBySomeHole() {
        WallHarbour x = Texts.with("thing 0 20 0 0 20 from 0 to 0; thing 0 10 0 0 99 from 1 to 9; thing 0 20 0 0 20 from 1 to 9");
        Texts.law(x, "charge 1 if seen");
        x.now(0, NOON);
        Check.same("without a hole", x.charge(0), 0);
        Texts.harbour(x, "hole 0 10");
        Check.same("by the first", x.charge(0), 1);
        x.now(1, NOON);
        Check.same("hidden from the first", x.charge(2), 0);
        Texts.harbour(x, "hole 0 20");
        Check.same("hidden from both", x.charge(2), 0);
        Texts.harbour(x, "hole 4 20");
        Check.same("by the third", x.charge(2), 1);
        x.now(1, 1080);
        Check.same("by night", x.charge(2), 0);
    }

    /** "ALL CHARGES: at each hour's first minute of a DAY (0, 60, .. 1380)". */
    private static void chargesAtEachHour() {
        int[][] rows = {{0, 0, 1}, {1, 59, 0}, {1, 60, 1}, {60, 60, 1}, {59, 61, 1}, {1379, 1381, 1}, {1380, 1380, 1}, {1381, 1439, 0},
            {0, 1439, 24}, {0, 1379, 23}, {1, 1439, 23}};
        for (int[] row : rows) {
            WallHarbour x = Texts.with("ship 0 1 0 0 0 pace 0 from " + row[0] + " to " + row[1]);
            Texts.law(x, "charge 7");
            x.now(3, 45);
            Check.same("charges of a ship from " + row[0] + " to " + row[1], x.charges(999), 7 * row[2]);
            Check.same("now stays", x.now(0, 0), 3 * 1440 + 45);
        }
    }

    /** "of all BODIES that are THERE, together". */
    private static void chargesOfAllBodies() {
        StringBuilder things = new StringBuilder("thing 0 1 0 0 0 from 0 to 0");
        StringBuilder ships = new StringBuilder("ship 0 1 0 0 0 pace 0 from 0 to 1439");
        for (int i = 1; i < 10; i++) {
            things.append(";thing 0 1 0 0 0 from 0 to ").append(i);
        }
        for (int i = 1; i < 6; i++) {
            ships.append(";ship 0 1 0 0 0 pace 0 from 0 to 1439");
        }
        WallHarbour x = Texts.with(things.toString(), ships.toString());
        StringBuilder law = new StringBuilder("charge 999");
        for (int i = 1; i < 12; i++) {
            law.append(";charge 999");
        }
        Texts.law(x, law.toString());
        Check.same("of 16 bodies", x.charges(0), 16 * 24 * 12 * 999);
        Check.same("of 7 bodies", x.charges(9), 7 * 24 * 12 * 999);
        Check.same("of 6 bodies", x.charges(10), 6 * 24 * 12 * 999);
    }

    /** "MET: the first minute from now on (to 1439, of this DAY) at which both are THERE and one HIDES the other; none." */
    private static void met() {
        String thing = "hole 0 10; thing 0 100 0 0 10 from 5 to 6;";
        int[][] rows = {{0, 1439, 0, 0}, {0, 1439, 1439, 1439}, {1439, 1439, 0, 1439}, {700, 800, 0, 700}, {700, 800, 700, 700},
            {700, 800, 750, 750}, {700, 800, 800, 800}, {700, 800, 801, NONE}, {0, 0, 1, NONE}, {0, 1438, 1439, NONE}};
        for (int[] row : rows) {
            WallHarbour x = Texts.with(thing + "ship 0 50 0 0 10 pace 0 from " + row[0] + " to " + row[1]);
            for (int day = 4; day <= 7; day++) {
                x.now(day, row[2]);
                int due = day == 5 || day == 6 ? row[3] : NONE;
                Check.same("met from " + row[2] + " of " + row[0] + " to " + row[1] + " on " + day, x.met(0, 10, 0), due);
                Check.same("the other way", x.met(10, 0, 0), due);
            }
        }
        // the ship goes by the line, at X 0, at minute 999 alone
        WallHarbour by = Texts.with(thing + "ship west 999 50 0 0 99 pace 1 from 0 to 1439; ship west 999 50 4 0 99 pace 9 from 0 to 1439");
        by.now(5, 0);
        Check.same("goes by", by.met(0, 10, 0), 999);
        by.now(5, 999);
        Check.same("just there", by.met(0, 10, 0), 999);
        by.now(5, 1000);
        Check.same("gone by", by.met(0, 10, 0), NONE);
        by.now(5, 0);
        Check.same("a fast one", by.met(0, 11, 0), 111);
    }

    /** Bodies of one Y never hide one another; two things meet at once or not at all. */
    private static void metOfOneY() {
        WallHarbour x = Texts.with("hole 0 10; thing 0 50 20 0 99 from 0 to 9; thing 0 50 20 0 99 from 0 to 9;"
                + "ship 0 50 20 0 99 pace 0 from 0 to 1439; thing 0 100 0 0 10 from 9 to 10");
        x.now(9, 333);
        Check.same("of one Y", x.met(0, 1, 0), NONE);
        Check.same("of one Y", x.met(1, 10, 0), NONE);
        Check.same("at once", x.met(0, 2, 0), 333);
        x.now(10, 333);
        Check.same("one is not there", x.met(0, 2, 0), NONE);
        Check.same("the ship", x.met(2, 10, 0), 333);
        x.now(8, 333);
        Check.same("the other is not there", x.met(0, 2, 0), NONE);
    }

    /** "THE IMAGE (one) of all may be kept, and gone back to (but for the TAPE, fault() and THE IMAGE itself)." */
    private static void image() {
        WallHarbour x = Texts.with("hole 0 10; thing 1 2 3 4 5 from 6 to 7; ship 8 9 10 11 12 pace 1 from 2 to 3; tide 0 1");
        Texts.law(x, "charge 5");
        x.trace(6, 2, 0, 1, 2);
        x.now(6, 2);
        String first = Portrait.of(x);
        x.image();
        Texts.harbour(x, "hole 1 1; thing 2 2 2 2 2 from 2 to 2; ship 2 2 2 2 2 pace 2 from 2 to 2; moon 3; fog 4; cloud 5");
        Texts.harbour(x, "wall 5 from 6 to 7 top 8; tide 0 2; tide 11 low 9");
        Texts.law(x, "charge 6; charge 7 if seen");
        x.trace(7, 3, 1, -1, -2);
        x.now(7, 3);
        String second = Portrait.of(x);
        Check.tell(!first.equals(second), "there is a difference");
        for (int i = 0; i < 3; i++) {
            Check.same("back", x.back(), true);
            Check.same("as at first", Portrait.of(x), first);
            x.now(i, i);
            x.undo();
        }
    }

    /** "THE IMAGE (one)", "(but for the TAPE, fault() and THE IMAGE itself)". */
    private static void latestImage() {
        WallHarbour x = Texts.with("hole 0 10; fog 76");
        x.image();
        Texts.harbour(x, "fog 77");
        String latest = Portrait.of(x);
        x.image();
        Texts.harbour(x, "fog 78; hole 1 1");
        x.back();
        Check.same("one image alone: the latest", Portrait.of(x), latest);
        Texts.harbourFault(x, "fog 0");
        Texts.feed(x, "fog 5");
        x.back();
        Check.same("the fault stays", x.fault(), 4);
        Check.same("nothing more on the tape", x.end(6), false);
        Check.same("the tape stays", x.end(5), true);
        Check.same("the tape stays", x.harbour(), 3);
        Check.same("the tape's fog", x.count(9), 5);
        x.back();
        Check.same("it may be gone back to again", x.count(9), 77);
        Check.same("the tape is used up as it was", x.end(1), false);
        Check.same("the fault too", x.fault(), NONE);
    }

    /** Of "all" a TRACING's DAY, minute, HOLE, U and V too, where another has come in its place since. */
    private static void imageOfATracing() {
        int[][] others = {{8, 60, 0, -1, 9}, {7, 59, 0, -1, 9}, {7, 60, 1, -1, 9}, {7, 60, 0, 0, 9}, {7, 60, 0, -1, 8}};
        for (int[] other : others) {
            WallHarbour x = Texts.with("hole 0 10; hole 9 9; thing 1 50 0 0 11 from 7 to 7; ship west 59 50 0 0 10 pace 1 from 60 to 60;"
                    + "tide 1 1");
            x.trace(7, 60, 0, -1, 9);
            int both = 1 | 1 << 10;
            Check.same("the first", x.which(0), both);
            x.image();
            x.undo();
            x.trace(other[0], other[1], other[2], other[3], other[4]);
            Check.tell(x.which(0) != both, "another fits as the first does");
            x.back();
            Check.same("the one of the image", x.which(0), both);
        }
    }

    /** "false, and nothing happens, if none was kept." */
    private static void imageOfNothing() {
        WallHarbour x = Texts.with("hole 0 10; thing 1 2 3 4 5 from 6 to 7");
        String before = Portrait.of(x);
        Texts.feed(x, "fog 5");
        Check.same("none was kept", x.back(), false);
        Check.same("nothing happens", Portrait.of(x), before);
        Check.same("nor to the tape", x.end(5), true);
        WallHarbour y = new WallHarbour();
        y.image();
        Texts.harbour(y, "hole 0 10; fog 5; wall 1 from 2 to 3 top 4");
        Texts.law(y, "");
        y.trace(1, 1, 0, 1, 1);
        Check.same("back to a new one", y.back(), true);
        Check.same("back to a new one", Portrait.of(y), Portrait.of(new WallHarbour()));
    }

    /** "- 1000 for another what." */
    private static void counts() {
        WallHarbour x = new WallHarbour();
        for (int what : new int[] {-1, 16, 17, 100, Integer.MIN_VALUE, Integer.MAX_VALUE}) {
            Check.same("count " + what, x.count(what), -1000);
        }
        for (int what = 0; what < 16; what++) {
            Check.tell(x.count(what) != -1000, "count " + what);
        }
    }
}
