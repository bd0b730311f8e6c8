import java.util.NoSuchElementException;

/** A test of its own for each sentence about tracings and what is found by them, settings and ways, at its edges. */
public final class SearchEdgeTests {
    private static final int NONE = WallHarbour.NONE;
    private static final int NOTHING = -1000;
    private static final int NOON = 720;
    private static final int ALL_PLACES = 199 * 300;
    private static final Class<IllegalArgumentException> ILLEGAL = IllegalArgumentException.class;
    private static final Class<IndexOutOfBoundsException> INDEX = IndexOutOfBoundsException.class;
    private static final Class<UnsupportedOperationException> UNSUPPORTED = UnsupportedOperationException.class;
    private static final Class<NoSuchElementException> NO_SUCH = NoSuchElementException.class;

    public static void main(String[] args) {
        endsOfATracing();
        fullOfTracings();
        fullOfDrawings();
        drawnRoundedDown();
        undone();
        fitsRoundedDown();
        whichWasThere();
        fitsAsItWasThen();
        slips();
        builtAndFell();
        builtWhereItWasNot();
        nearestPlaces();
        farthestPlaces();
        placesButForE();
        first30Tracings();
        placesAsNow();
        endsOfPaces();
        endsOfAt();
        leastPaceAndAt();
        pacesByUAlone();
        tidesOfAMark();
        markAsNow();
        settingsMost();
        settingsLeast();
        firstSetting();
        settingOfNone();
        noSetting();
        settingNow();
        endsOfTheWay();
        lanesOfTheWay();
        lastMinutesOfTheWay();
        tideOnTheWay();
        wayByAnyHole();
        wayBehindABody();
        Check.finish("SearchEdgeTests");
    }

    /** "A TRACING: DAY, minute, HOLE, U and V (- 999 to 999 each)"; "IllegalArgumentException: DAY, minute, U or V are none". */
    private static void endsOfATracing() {
        WallHarbour x = Texts.with("hole 0 10; hole 0 11");
        int[] least = {0, 0, 0, -999, -999};
        int[] most = {999, 1439, 1, 999, 999};
        int number = 0;
        for (int i = 0; i < 5; i++) {
            for (int by = -1; by <= 1; by++) {
                int[] low = {5, 5, 0, 5, 5};
                int[] high = low.clone();
                low[i] = least[i] + by;
                high[i] = most[i] + by;
                Class<? extends RuntimeException> due = i == 2 ? INDEX : ILLEGAL;
                number += traces(x, low, by < 0 ? due : null, number);
                number += traces(x, high, by > 0 ? due : null, number);
            }
        }
        Check.same("tracings", x.count(7), number);
        for (int far : new int[] {Integer.MIN_VALUE, Integer.MAX_VALUE}) {
            traces(x, new int[] {far, 0, 0, 0, 0}, ILLEGAL, 0);
            traces(x, new int[] {0, far, 0, 0, 0}, ILLEGAL, 0);
            traces(x, new int[] {0, 0, far, 0, 0}, INDEX, 0);
            traces(x, new int[] {0, 0, 0, far, 0}, ILLEGAL, 0);
            traces(x, new int[] {0, 0, 0, 0, far}, ILLEGAL, 0);
        }
        Check.same("tracings", x.count(7), number);
    }

    /** How many tracings came. */
    private static int traces(WallHarbour x, int[] row, Class<? extends RuntimeException> due, int number) {
        String what = "trace " + row[0] + " " + row[1] + " " + row[2] + " " + row[3] + " " + row[4];
        if (due == null) {
            Check.same(what, x.trace(row[0], row[1], row[2], row[3], row[4]), number);
            return 1;
        }
        Check.fails(what, due, () -> x.trace(row[0], row[1], row[2], row[3], row[4]));
        return 0;
    }

    /** "A TRACING (at most 40, numbered from 0 on)"; "UnsupportedOperationException: there are 40". */
    private static void fullOfTracings() {
        WallHarbour x = Texts.with("hole 0 10");
        for (int i = 0; i < 40; i++) {
            Check.same("tracing", x.trace(i, i, 0, i, i), i);
        }
        Check.fails("a 41st", UNSUPPORTED, () -> x.trace(0, 0, 0, 0, 0));
        Check.same("there are 40", x.count(7), 40);
        Check.same("the last", x.which(39), 0);
        Check.fails("behind the last", INDEX, () -> x.which(40));
        Check.same("one less", x.undo(), 39);
        Check.fails("it is gone", INDEX, () -> x.which(39));
        Check.same("one more", x.trace(0, 0, 0, 0, 0), 39);
        Check.fails("a 41st again", UNSUPPORTED, () -> x.trace(0, 0, 0, 0, 0));
    }

    /** "NONE, and nothing happens, if it is not. UnsupportedOperationException: it is, and there are 40". */
    private static void fullOfDrawings() {
        WallHarbour x = Texts.with("hole 0 10; thing 0 50 0 0 10 from 0 to 5; thing 0 40 0 0 10 from 5 to 5");
        Check.same("by night", x.draw(0, 0), NONE);
        Check.same("nothing happens", x.count(7), 0);
        x.now(0, NOON);
        for (int i = 0; i < 40; i++) {
            Check.same("drawing", x.draw(0, 0), i);
        }
        Check.fails("a 41st", UNSUPPORTED, () -> x.draw(0, 0));
        Check.same("there are 40", x.count(7), 40);
        x.now(5, NOON);
        Check.same("hidden", x.draw(0, 0), NONE);
        x.now(6, NOON);
        Check.same("gone", x.draw(0, 0), NONE);
        Check.same("there are 40", x.count(7), 40);
        x.now(4, NOON);
        x.undo();
        Check.same("a 40th again", x.draw(0, 0), 39);
    }

    /** "U and V, rounded down": of what is drawn too. */
    private static void drawnRoundedDown() {
        // U is - 2 by 3 and 2 by 3, V is 10 less 1 by 3 and 10 and 1 by 3
        String[] things = {"thing 2 30 0 0 11", "thing west 2 30 0 0 9"};
        int[][] due = {{-1, 9}, {0, 10}};
        for (int i = 0; i < things.length; i++) {
            WallHarbour x = Texts.with("hole 0 10;" + things[i] + " from 3 to 3");
            x.now(3, NOON);
            Check.same("drawn", x.draw(0, 0), 0);
            Check.same("it fits", x.which(0), 1);
            Check.same("on that day", x.when(0, false), 3);
            // at Y 30 and height 10 V is 10: U alone tells the places
            x.trace(3, NOON, 0, due[i][0], 10);
            x.trace(3, NOON, 0, due[i][0], due[i][1]);
            Check.same("so much as one told", x.which(2), 1);
            Check.same("the same places", x.places(1, i == 0 ? 11 : 9, 0, 0), x.places(4, i == 0 ? 11 : 9, 0, 0));
            Check.same("all of them", x.places(5, i == 0 ? 11 : 9, 0, 0), x.places(4, i == 0 ? 11 : 9, 0, 0));
        }
    }

    /** "UNDONE: its number; NONE without." */
    private static void undone() {
        WallHarbour x = Texts.with("hole 0 10");
        Check.same("without", x.undo(), NONE);
        Check.same("without", x.count(7), 0);
        x.trace(0, 0, 0, 0, 0);
        Check.same("the first", x.undo(), 0);
        Check.same("without", x.undo(), NONE);
        Check.same("the first again", x.trace(0, 0, 0, 0, 0), 0);
    }

    /** "FITS a BODY, if U and V of its TIP, rounded down, are just these". */
    private static void fitsRoundedDown() {
        // U is - X by 3, V is 10 and (10 less HIGH) by 3
        String[] ends = {"0 30 0 0 10", "1 30 0 0 10", "west 1 30 0 0 10", "3 30 0 0 13", "4 30 0 0 14", "west 3 30 0 0 7",
            "west 2 30 0 0 8", "0 30 0 0 40", "0 30 0 0 41"};
        int[][] due = {{0, 10}, {-1, 10}, {0, 10}, {-1, 9}, {-2, 8}, {1, 11}, {0, 10}, {0, 0}, {0, -1}};
        for (int i = 0; i < ends.length; i++) {
            WallHarbour x = Texts.with("hole 0 10; thing " + ends[i] + " from 0 to 0");
            int number = 0;
            for (int u = -1; u <= 1; u++) {
                for (int v = -1; v <= 1; v++) {
                    x.trace(0, 0, 0, due[i][0] + u, due[i][1] + v);
                    Check.same("which of " + ends[i] + " by " + u + " " + v, x.which(number), u == 0 && v == 0 ? 1 : 0);
                    number++;
                }
            }
            Check.same("slips of " + ends[i], x.slips(), 8);
        }
    }

    /** "WHICH: all BODIES that it FITS and that were THERE, as bits": by the TRACING's DAY and minute, ends too. */
    private static void whichWasThere() {
        StringBuilder text = new StringBuilder("hole 0 10; thing 0 50 0 0 10 from 0 to 0");
        for (int i = 1; i < 10; i++) {
            text.append("; thing 0 50 0 0 10 from ").append(i).append(" to ").append(100 * i);
        }
        StringBuilder ships = new StringBuilder("ship 0 50 0 0 10 pace 0 from 0 to 0");
        for (int i = 1; i < 6; i++) {
            ships.append("; ship 0 50 0 0 10 pace 0 from ").append(i).append(" to ").append(100 * i);
        }
        WallHarbour x = Texts.with(text.toString(), ships.toString());
        int number = 0;
        for (int[] time : new int[][] {{0, 0}, {1, 1}, {9, 5}, {9, 4}, {100, 100}, {101, 101}, {900, 500}, {901, 501}, {999, 1439}}) {
            x.trace(time[0], time[1], 0, 0, 10);
            int due = (time[0] == 0 ? 1 : 0) | (time[1] == 0 ? 1 << 10 : 0);
            for (int i = 1; i < 10; i++) {
                due |= i <= time[0] && time[0] <= 100 * i ? 1 << i : 0;
                due |= i < 6 && i <= time[1] && time[1] <= 100 * i ? 1 << (10 + i) : 0;
            }
            x.now(500, 300);
            Check.same("which at " + time[0] + " " + time[1], x.which(number), due);
            number++;
        }
        Check.same("slips", x.slips(), 2);
    }

    /** "by that HOLE, at that DAY and minute": the ship's X and the TIDE are those of then. */
    private static void fitsAsItWasThen() {
        WallHarbour x = Texts.with("hole 0 10; hole 1 10; ship 0 10 0 0 10 pace 2 from 0 to 1439; moon 1; tide 0 1; tide 1 low 1");
        // U is 2 P less X, V is 20 less HIGH: 10 less TIDE
        int[][] rows = {{0, 0, 0, 0, 9}, {0, 3, 0, -6, 9}, {0, 59, 0, -118, 9}, {0, 60, 0, -120, 11}, {1, 3, 0, -6, 11},
            {11, 60, 0, -120, 9}, {2, 3, 0, -6, 10}, {0, 3, 1, -4, 9}, {999, 480, 0, -960, 10}};
        for (int i = 0; i < rows.length; i++) {
            int[] row = rows[i];
            Check.same("traced", x.trace(row[0], row[1], row[2], row[3], row[4]), i);
            Check.same("as it was then " + i, x.which(i), 1 << 10);
        }
        int[][] others = {{0, 1, 0, 0, 9}, {0, 0, 1, 0, 9}, {1, 0, 0, 0, 9}, {0, 60, 0, -120, 9}, {0, 3, 0, -4, 9}};
        for (int i = 0; i < others.length; i++) {
            int[] row = others[i];
            x.trace(row[0], row[1], row[2], row[3], row[4]);
            Check.same("otherwise then " + i, x.which(rows.length + i), 0);
        }
    }

    /** "SLIP: a TRACING that FITS none of these": nor what was not THERE. */
    private static void slips() {
        WallHarbour x = Texts.with("hole 0 10; thing 0 50 0 0 10 from 5 to 6");
        Check.same("without", x.slips(), 0);
        int due = 0;
        for (int day = 3; day <= 8; day++) {
            x.trace(day, 0, 0, 0, 10);
            due += day < 5 || day > 6 ? 1 : 0;
            Check.same("slips up to day " + day, x.slips(), due);
        }
        x.trace(5, 0, 0, 1, 10);
        Check.same("another U", x.slips(), due + 1);
        x.trace(5, 0, 0, 0, 9);
        Check.same("another V", x.slips(), due + 2);
        Texts.harbour(x, "thing 0 50 0 0 10 from 0 to 999");
        Check.same("another thing was there", x.slips(), 2);
        Texts.harbour(x, "wall 10 from 50 to 60 top 0; fog 1");
        Check.same("wall's ends and fog are nothing to it", x.slips(), 2);
        for (int i = x.count(7); i < 40; i++) {
            x.trace(0, 0, 0, 500, 500);
        }
        Check.same("of all 40", x.slips(), 34);
    }

    /** "BUILT: the earliest DAY of a TRACING that FITS it; FELL: the latest; none." */
    private static void builtAndFell() {
        WallHarbour x = Texts.with("hole 0 10; thing 0 50 0 0 10 from 5 to 6; ship 0 50 0 0 10 pace 0 from 0 to 9;"
                + "thing 1 50 0 0 10 from 5 to 6");
        Check.same("none", x.when(0, false), NONE);
        Check.same("none", x.when(0, true), NONE);
        int[][] rows = {{500, 500, 500}, {400, 400, 500}, {600, 400, 600}, {500, 400, 600}, {999, 400, 999}, {0, 0, 999}, {5, 0, 999}};
        for (int[] row : rows) {
            x.trace(row[0], 0, 0, 0, 10);
            Check.same("built", x.when(0, false), row[1]);
            Check.same("fell", x.when(0, true), row[2]);
            Check.same("none of the other", x.when(1, false), NONE);
            Check.same("none of the other", x.when(1, true), NONE);
        }
        x.trace(7, 0, 0, -1, 10);
        Check.same("one alone", x.when(1, false), 7);
        Check.same("one alone", x.when(1, true), 7);
        for (int thing : new int[] {-1, 2, 9, 10, 11, 15, 16, Integer.MIN_VALUE, Integer.MAX_VALUE}) {
            Check.fails("no thing " + thing, INDEX, () -> x.when(thing, false));
        }
        for (int i = x.count(7); i > 0; i--) {
            x.undo();
        }
        Check.same("none again", x.when(0, true), NONE);
    }

    /** "FITS: (whether it is THERE or not)". */
    private static void builtWhereItWasNot() {
        WallHarbour x = Texts.with("hole 0 10; thing 0 50 0 0 10 from 5 to 6");
        x.trace(4, 0, 0, 0, 10);
        x.trace(7, 0, 0, 0, 10);
        Check.same("built", x.when(0, false), 4);
        Check.same("fell", x.when(0, true), 7);
        Check.same("it was not there", x.which(0), 0);
        Check.same("both slips", x.slips(), 2);
    }

    /** "all whole X (- 99 to 99) and Y (1 to 300)": at the nearest Y, by a wall 1 behind, U is - X. */
    private static void nearestPlaces() {
        int[][] rows = {{-99, 1, 99, 1}, {99, 1, -99, 1}, {-100, 0, NOTHING, NONE}, {100, 0, NOTHING, NONE}, {-98, 1, 98, 1},
            {-50, 2, 50, 1}, {-49, 3, 49, 1}, {49, 3, -49, 1}, {-999, 0, NOTHING, NONE}, {999, 0, NOTHING, NONE}};
        for (int[] row : rows) {
            WallHarbour x = Texts.with("hole 0 10; wall 1 from 0 to 0 top 0");
            x.trace(0, 0, 0, row[0], 10);
            x.trace(0, 0, 0, row[0], 11);
            for (int what = 0; what < 3; what++) {
                Check.same("places " + what + " of U " + row[0], x.places(1, 10, 0, what), row[1 + what]);
            }
            Check.same("places of another V", x.places(2, 10, 0, 0), 0);
        }
    }

    /** The same at the farthest Y. */
    private static void farthestPlaces() {
        // V is 50 and 7450 by Y: 74 at 299 and 300. By the hole at - 50 U - 75 is of X from 94 at 299 and from 95 at 300; by that
        // at 50 U 41 is of X from 98 at 299 and 99 at 300, and U 74 of X to - 94 at both
        WallHarbour x = Texts.with("hole west 50 50; hole 50 50; wall 50 from 0 to 0 top 0");
        x.trace(0, 0, 0, -75, 74);
        x.trace(0, 0, 1, 41, 74);
        x.trace(0, 0, 1, 74, 74);
        int[][] rows = {{1, 0, 11, 94, 299}, {2, 0, 3, 98, 299}, {3, 0, 3, 98, 299}, {3, 1, 11, 94, 299}, {4, 0, 12, -99, 299},
            {5, 0, 0, NOTHING, NONE}, {5, 1, 23, -99, 299}, {7, 1, 3, 98, 299}, {7, 2, 23, -99, 299}, {7, 3, ALL_PLACES, -99, 1}};
        for (int[] row : rows) {
            for (int what = 0; what < 3; what++) {
                Check.same("places " + what + " of " + row[0] + " but " + row[1], x.places(row[0], -99, row[1], what), row[2 + what]);
            }
        }
    }

    /** "by all TRACINGS of a set, but for E at most"; "E is not 0 to 30", "Z is not - 99 to 99". */
    private static void placesButForE() {
        WallHarbour x = Texts.with("hole 0 10; wall 1 from 0 to 0 top 0");
        for (int i = 0; i < 5; i++) {
            x.trace(0, 0, 0, -99 + i, 10);
        }
        // each tracing has a place of its own
        int[] due = {0, 0, 0, 0, 5, ALL_PLACES, ALL_PLACES};
        for (int e = 0; e < due.length; e++) {
            Check.same("places but for " + e, x.places(31, 10, e, 0), due[e]);
        }
        Check.same("the first of them", x.places(31, 10, 4, 1), 95);
        Check.same("but for 30", x.places(1, 10, 30, 0), ALL_PLACES);
        Check.same("but for 30", x.places(31, -99, 30, 1), -99);
        Check.same("but for 30", x.places(31, 99, 30, 2), 1);
        for (int e : new int[] {-1, 31, Integer.MIN_VALUE, Integer.MAX_VALUE}) {
            Check.fails("but for " + e, ILLEGAL, () -> x.places(1, 10, e, 0));
        }
        for (int z : new int[] {-100, 100, Integer.MIN_VALUE, Integer.MAX_VALUE}) {
            Check.fails("of height " + z, ILLEGAL, () -> x.places(1, z, 0, 0));
        }
        for (int what : new int[] {-1, 3, Integer.MIN_VALUE, Integer.MAX_VALUE}) {
            Check.fails("what " + what, NO_SUCH, () -> x.places(1, 10, 0, what));
        }
    }

    /** "a set (bits of the first 30; one at least)"; "no TRACING is told". */
    private static void first30Tracings() {
        WallHarbour x = Texts.with("hole 0 10; wall 1 from 0 to 0 top 0");
        Check.fails("there is none", ILLEGAL, () -> x.places(-1, 0, 0, 0));
        for (int i = 0; i < 40; i++) {
            int bit = i;
            if (i < 32) {
                Check.fails("not yet traced: " + i, ILLEGAL, () -> x.places(1 << bit, 10, 0, 0));
            }
            x.trace(0, 0, 0, i == 29 ? -99 : -98, 10);
            if (i < 30) {
                Check.same("X of tracing " + i, x.places(1 << i, 10, 0, 1), i == 29 ? 99 : 98);
            }
            Check.fails("none is told", ILLEGAL, () -> x.places(0, 10, 0, 0));
        }
        Check.fails("the 31st", ILLEGAL, () -> x.places(1 << 30, 10, 0, 0));
        Check.fails("the 32nd", ILLEGAL, () -> x.places(1 << 31, 10, 0, 0));
        Check.fails("both", ILLEGAL, () -> x.places(3 << 30, 10, 0, 0));
        Check.same("all", x.places(-1, 10, 0, 0), 0);
        Check.same("all but the 30th", x.places(-1, 10, 1, 0), 1);
        Check.same("all but the 30th", x.places(-1, 10, 1, 1), 98);
        Check.same("the 31st counts for nothing", x.places(3 << 29, 10, 0, 1), 99);
        Check.same("all but 29", x.places(-1, 10, 29, 0), 2);
        Check.same("all but 30", x.places(-1, 10, 30, 0), ALL_PLACES);
    }

    /** "HOLES, DEEP as now"; NOW, TIDES and what is there are nothing to it. */
    private static void placesAsNow() {
        WallHarbour x = Texts.with("hole 0 10; wall 1 from 0 to 0 top 0; tide 0 9; thing 0 1 20 0 99 from 0 to 9; fog 1");
        x.trace(9, 0, 0, -98, 10);
        Check.same("as now", x.places(1, 10, 0, 1), 98);
        x.now(5, 60);
        Check.same("at another time", x.places(1, 10, 0, 1), 98);
        Texts.harbour(x, "wall 2 from 0 to 0 top 0");
        // U is - 2 X by Y: 49 at 1, 97 and 98 at 2
        Check.same("by a deeper wall", x.places(1, 10, 0, 0), 2);
        Check.same("by a deeper wall: X", x.places(1, 10, 0, 1), 49);
        Check.same("by a deeper wall: Y", x.places(1, 10, 0, 2), 1);
    }

    /** "all PACES (- 9 to 9)"; "- 1000 without, for both". */
    private static void endsOfPaces() {
        // at Y 10 U is - X: in a minute X goes by the pace
        for (int pace = -11; pace <= 11; pace++) {
            WallHarbour x = Texts.with("hole 0 10");
            x.trace(0, 100, 0, 0, 0);
            x.trace(0, 101, 0, -pace, 0);
            boolean is = pace >= -9 && pace <= 9;
            Check.same("how many " + pace, x.paces(0, 1, 10, 0), is ? 1 : 0);
            Check.same("the pace " + pace, x.paces(0, 1, 10, 1), is ? pace : NOTHING);
            Check.same("its AT " + pace, x.paces(0, 1, 10, 2), is ? -100 * pace : NOTHING);
            Check.same("the other way " + pace, x.paces(1, 0, 10, 1), is ? pace : NOTHING);
        }
    }

    /** "for which some AT (- 999 to 999) gives U of both". */
    private static void endsOfAt() {
        for (int at = 995; at <= 1003; at++) {
            for (int side = -1; side <= 1; side += 2) {
                // at Y 10 U is - X; to be a U of 999 at most, X goes back by 9 each minute
                WallHarbour x = Texts.with("hole 0 10");
                x.trace(0, 1, 0, -side * (at - 9), 0);
                x.trace(0, 2, 0, -side * (at - 18), 0);
                boolean is = at <= 999;
                Check.same("how many " + side * at, x.paces(0, 1, 10, 0), is ? 1 : 0);
                Check.same("the pace " + side * at, x.paces(0, 1, 10, 1), is ? -side * 9 : NOTHING);
                Check.same("AT " + side * at, x.paces(0, 1, 10, 2), is ? side * at : NOTHING);
            }
        }
        // at Y 300 U 33 is of X from - 1019 to - 990, of which AT may be - 999 to - 990
        WallHarbour x = Texts.with("hole 0 10");
        x.trace(0, 0, 0, 33, 0);
        x.trace(0, 1, 0, 33, 0);
        x.trace(0, 2, 0, 33, 0);
        Check.same("a minute later", x.paces(0, 1, 300, 0), 19);
        Check.same("a minute later", x.paces(0, 1, 300, 1), -9);
        Check.same("a minute later", x.paces(0, 1, 300, 2), -999);
        Check.same("two minutes later", x.paces(0, 2, 300, 0), 14);
    }

    /** "how many; the first (least PACE), its least AT": at the first and the last minute and the nearest and farthest Y too. */
    private static void leastPaceAndAt() {
        WallHarbour x = Texts.with("hole 0 10");
        x.trace(0, 0, 0, -1, 0);
        x.trace(0, 1439, 0, -1, 0);
        x.trace(0, 10, 0, -1, 0);
        x.trace(0, 1, 0, -990, 0);
        x.trace(0, 2, 0, -980, 0);
        x.trace(0, 3, 0, -985, 0);
        // at 300 U - 1 is of X 1 to 30: from minute 0 to 10 paces - 2 to 2
        int[][] rows = {{0, 1, 300, 1, 0, 1}, {1, 0, 300, 1, 0, 1}, {0, 2, 300, 5, -2, 21}, {2, 0, 300, 5, -2, 21},
            {3, 4, 1, 1, -1, 100}, {3, 5, 1, 0, NOTHING, NOTHING}, {0, 2, 10, 1, 0, 1}, {0, 1, 10, 1, 0, 1}};
        for (int[] row : rows) {
            for (int what = 0; what < 3; what++) {
                Check.same("paces " + what + " of " + row[0] + " " + row[1] + " at " + row[2],
                        x.paces(row[0], row[1], row[2], what), row[3 + what]);
            }
        }
    }

    /** "gives U of both": V, what is there and when it is are nothing to it; HOLES, DAYS must be one, minutes not, Y 1 to 300. */
    private static void pacesByUAlone() {
        WallHarbour x = Texts.with("hole 0 10; hole 0 10; ship 0 10 0 0 0 pace 9 from 700 to 700; tide 0 9");
        x.trace(5, 0, 0, 0, 999);
        x.trace(5, 1, 0, -4, -999);
        x.trace(5, 1, 1, -4, 0);
        x.trace(6, 1, 0, -4, 0);
        x.trace(5, 0, 0, -4, 0);
        Check.same("by U alone", x.paces(0, 1, 10, 1), 4);
        Check.fails("two holes, though alike", ILLEGAL, () -> x.paces(0, 2, 10, 0));
        Check.fails("two days", ILLEGAL, () -> x.paces(0, 3, 10, 0));
        Check.fails("one minute", ILLEGAL, () -> x.paces(0, 4, 10, 0));
        Check.fails("one tracing", ILLEGAL, () -> x.paces(1, 1, 10, 0));
        for (int y : new int[] {0, 301, Integer.MIN_VALUE, Integer.MAX_VALUE}) {
            Check.fails("Y " + y, ILLEGAL, () -> x.paces(0, 1, y, 0));
        }
        for (int tracing : new int[] {-1, 5, 40, Integer.MIN_VALUE, Integer.MAX_VALUE}) {
            Check.fails("the first is none", INDEX, () -> x.paces(tracing, 1, 10, 0));
            Check.fails("the second is none", INDEX, () -> x.paces(0, tracing, 10, 0));
        }
        for (int what : new int[] {-1, 3, Integer.MIN_VALUE, Integer.MAX_VALUE}) {
            Check.fails("what " + what, NO_SUCH, () -> x.paces(0, 1, 10, what));
        }
    }

    /** "all TIDES (- 9 to 9): the least (- 1000 without); how many". */
    private static void tidesOfAMark() {
        // by the hole at 10 V is 20 less TIDE at Y 10, 110 less 10 TIDE at Y 1, 10 and (10 less TIDE) by 30 at Y 300;
        // by that at 1 it is 1 and (1 less TIDE) by 30 at Y 300
        int[][] rows = {{10, 0, 29, -9, 1}, {10, 0, 11, 9, 1}, {10, 0, 30, NOTHING, 0}, {10, 0, 10, NOTHING, 0}, {10, 0, 20, 0, 1},
            {1, 0, 200, -9, 1}, {1, 0, 20, 9, 1}, {1, 0, 210, NOTHING, 0}, {1, 0, 10, NOTHING, 0}, {1, 0, 105, NOTHING, 0},
            {300, 0, 10, -9, 19}, {300, 0, 9, NOTHING, 0}, {300, 0, 11, NOTHING, 0}, {300, 1, 1, -9, 11}, {300, 1, 0, 2, 8},
            {300, 1, -1, NOTHING, 0}, {10, 0, Integer.MAX_VALUE, NOTHING, 0}, {10, 0, Integer.MIN_VALUE, NOTHING, 0}};
        WallHarbour x = Texts.with("hole 0 10; hole 0 1");
        for (int[] row : rows) {
            for (int side : new int[] {-99, 0, 99}) {
                Check.same("least tide at " + row[0] + " by V " + row[2], x.mark(side, row[0], row[1], row[2], false), row[3]);
                Check.same("tides at " + row[0] + " by V " + row[2], x.mark(side, row[0], row[1], row[2], true), row[4]);
            }
        }
        for (int far : new int[] {-100, 100, Integer.MIN_VALUE, Integer.MAX_VALUE}) {
            Check.fails("X " + far, ILLEGAL, () -> x.mark(far, 1, 0, 0, false));
        }
        for (int far : new int[] {0, 301, Integer.MIN_VALUE, Integer.MAX_VALUE}) {
            Check.fails("Y " + far, ILLEGAL, () -> x.mark(0, far, 0, 0, true));
        }
        for (int hole : new int[] {-1, 2, 3, Integer.MIN_VALUE, Integer.MAX_VALUE}) {
            Check.fails("hole " + hole, INDEX, () -> x.mark(0, 1, hole, 0, true));
        }
    }

    /** The DEEP is that of now; TIDES, light and the wall's ends are nothing to a mark. */
    private static void markAsNow() {
        WallHarbour x = Texts.with("hole 0 10; tide 0 9; moon 5; fog 1; thing 0 1 20 0 99 from 0 to 9");
        Check.same("as at first", x.mark(0, 10, 0, 15, false), 5);
        x.now(7, NOON);
        Check.same("at another time", x.mark(0, 10, 0, 15, false), 5);
        Texts.harbour(x, "wall 1 from 0 to 0 top 0");
        // V is 11 less TIDE by 10
        Check.same("by a wall less deep", x.mark(0, 10, 0, 10, false), 1);
        Check.same("by a wall less deep", x.mark(0, 10, 0, 10, true), 9);
        Check.same("by a wall less deep", x.mark(0, 10, 0, 11, true), 10);
    }

    /** "P - 10 to 10 and H 1 to 20, and DEEP 1 to 20": the most of them, by a wall of one point. */
    private static void settingsMost() {
        // V is 0: H (Y and DEEP) is HIGH times DEEP; U is LEFT: P (Y and DEEP) is LEFT times Y and X times DEEP
        setting("thing 11 20 0 0 40 from 0 to 0; wall 10 from 9 to 9 top 0", 1, 10, 20, 20);
        setting("thing 13 20 0 0 40 from 0 to 0; wall 10 from 9 to 9 top 0", 0, -10, 1, 1);
        setting("thing 11 20 0 0 42 from 0 to 0; wall 10 from 9 to 9 top 0", 0, -10, 1, 1);
        setting("thing 11 21 0 0 40 from 0 to 0; wall 10 from 9 to 9 top 0", 0, -10, 1, 1);
    }

    /** The least of them. */
    private static void settingsLeast() {
        setting("thing west 30 20 0 0 21 from 0 to 0; wall 10 from west 9 to west 9 top 0", 1, -10, 1, 1);
        setting("thing west 31 20 0 0 21 from 0 to 0; wall 10 from west 10 to west 10 top 0", 0, -10, 1, 1);
        setting("thing 0 20 0 0 0 from 0 to 0; wall 10 from west 99 to 99 top 0", 0, -10, 1, 1);
        setting("thing 0 20 0 0 0 from 0 to 0; wall 10 from west 99 to 99 top 1", 0, -10, 1, 1);
        setting("thing 0 20 0 0 0 from 0 to 0; wall 10 from west 99 to 99 top 2", 1, -10, 1, 1);
    }

    /** "of several the first by P, then H, then DEEP". */
    private static void firstSetting() {
        // V 0 is by H 8, DEEP 5, by H 15, DEEP 12, by H 20, DEEP 20; U is P and P DEEP by 20
        setting("thing 0 20 0 0 40 from 0 to 0; wall 10 from west 99 to 99 top 0", 1, -10, 8, 5);
        setting("thing 0 20 0 0 40 from 0 to 0; wall 10 from 0 to 99 top 0", 1, 0, 8, 5);
        setting("thing 0 20 0 0 40 from 0 to 0; wall 10 from 16 to 99 top 0", 1, 8, 20, 20);
        setting("thing 0 20 0 0 40 from 0 to 0; wall 10 from 17 to 99 top 0", 1, 9, 20, 20);
        // V of the other one is H and H DEEP, beyond 30 by H 2 from DEEP 15 on, by H 3 from 10 on, by H 16 from 1 on
        WallHarbour x = Texts.with("wall 10 from west 99 to 99 top 30; thing 0 300 0 0 0 from 0 to 0; thing west 10 1 0 0 0 from 0 to 0");
        x.now(0, NOON);
        int[] due = {1, -10, 2, 15};
        for (int what = 0; what < 4; what++) {
            Check.same("H ahead of DEEP: " + what, x.setting(1, 1, what), due[what]);
            Check.same("the one told is in the set: " + what, x.setting(3, 1, what), due[what]);
            Check.same("bits of no body: " + what, x.setting(~2, 1, what), due[what]);
        }
        int[] both = {2, -10, 1, 1};
        for (int what = 0; what < 4; what++) {
            Check.same("both: " + what, x.setting(-1, NONE, what), both[what]);
        }
    }

    private static void setting(String text, int... due) {
        WallHarbour x = Texts.with(text);
        x.now(0, NOON);
        for (int what = 0; what < 4; what++) {
            Check.same("setting " + what + " of " + text, x.setting(1, NONE, what), due[what]);
        }
    }

    /** "(NONE: none is told)", "(Bits of no BODY count for nothing.)": a set may be empty. */
    private static void settingOfNone() {
        WallHarbour x = new WallHarbour();
        int[] due = {0, -10, 1, 1};
        for (int bodies : new int[] {0, -1, 1, 1 << 10, 1 << 15, 1 << 16, 1 << 31, Integer.MAX_VALUE}) {
            for (int what = 0; what < 4; what++) {
                Check.same("setting " + what + " of no body", x.setting(bodies, NONE, what), due[what]);
            }
        }
        for (int never : new int[] {-2, 0, 9, 10, 15, 16, 31, 32, Integer.MIN_VALUE, Integer.MAX_VALUE}) {
            Check.fails("no body " + never, INDEX, () -> x.setting(0, never, 0));
        }
        for (int what : new int[] {-1, 4, Integer.MIN_VALUE, Integer.MAX_VALUE}) {
            Check.fails("what " + what, NO_SUCH, () -> x.setting(0, NONE, what));
        }
    }

    /** "none, if it cannot be"; "- 1000 for none". */
    private static void noSetting() {
        WallHarbour x = Texts.with("wall 10 from west 99 to 99 top 99; thing 0 300 0 0 0 from 0 to 0; thing 0 300 0 0 0 from 1 to 1");
        x.now(0, NOON);
        for (int what = 0; what < 4; what++) {
            Check.same("always seen: " + what, x.setting(3, 0, what), NOTHING);
            Check.same("always seen, the set empty: " + what, x.setting(0, 0, what), NOTHING);
            Check.same("not there: " + what, x.setting(3, 1, what), what == 0 ? 1 : what == 1 ? -10 : 1);
        }
        x.now(0, 359);
        Check.same("by night it is not seen", x.setting(3, 0, 0), 0);
    }

    /** "are SEEN now": in LIGHT, THERE, this side of the FOG, and not hidden; "alone in place of the HOLES, DEEP". */
    private static void settingNow() {
        WallHarbour x = Texts.with("wall 10 from west 99 to 99 top 99; thing 0 300 0 0 0 from 5 to 6; ship 0 300 0 0 0 pace 0 from 700 to 750;"
                + "thing 0 150 20 0 99 from 6 to 6");
        int[][] rows = {{4, 600, 0}, {5, 600, 1}, {5, 699, 1}, {5, 700, 2}, {4, 750, 1}, {4, 751, 0}, {5, 1080, 0}, {6, 750, 0},
            {7, 720, 1}};
        for (int[] row : rows) {
            x.now(row[0], row[1]);
            Check.same("seen at " + row[0] + " " + row[1], x.setting(1 | 1 << 10, NONE, 0), row[2]);
        }
        x.now(5, 720);
        Texts.harbour(x, "fog 299");
        Check.same("in fog", x.setting(1 | 1 << 10, NONE, 0), 0);
        Texts.harbour(x, "fog 300; hole 0 50; hole 1 50; hole 2 50; wall 50 from west 99 to 99 top 99");
        Check.same("whatever the holes", x.setting(1 | 1 << 10, NONE, 0), 2);
        Check.same("they stay", x.count(2), 3);
        Check.same("DEEP stays", x.count(11), 50);
        Check.same("by them", x.spot(0, 0, true, 0), 58);
    }

    /** "from X - 60 to X 60, by 10 each minute, in lanes: Y 20, 40, .. 120 (0 to 5)". */
    private static void endsOfTheWay() {
        // U is - 10 X by Y: in lane 5 it is 5 at X - 60, in lane 4 at - 50, .. in lane 0 at - 10
        WallHarbour west = Texts.with("hole 0 10; wall 10 from 5 to 99 top 20");
        west.now(0, NOON);
        Check.same("seen at X - 60 alone", west.way(NONE), 1);
        Check.same("lanes", lanes(west), "4543210000000");
        Texts.harbour(west, "wall 10 from 6 to 99 top 20");
        Check.same("not seen", west.way(NONE), 0);
        WallHarbour east = Texts.with("hole 0 10; wall 10 from west 99 to west 5 top 20");
        east.now(0, NOON);
        Check.same("seen at X 60 alone", east.way(NONE), 1);
        Check.same("lanes", lanes(east), "0000000123454");
        Texts.harbour(east, "wall 10 from west 99 to west 6 top 20");
        Check.same("not seen", east.way(NONE), 0);
        // at X 0 alone U is 0
        WallHarbour middle = Texts.with("hole 0 10; wall 10 from 0 to 0 top 20");
        middle.now(0, NOON);
        Check.same("seen at X 0", middle.way(NONE), 1);
        Check.same("lanes", lanes(middle), "0000000000000");
    }

    /** "in any lane first, each minute in the same one or one beside it": "of the first minute the least, then the next". */
    private static void lanesOfTheWay() {
        String[] due = {"0000000000000", "1111111111111", "2222222222222", "3333333333333", "4444444444444", "5555555555555"};
        for (int lane = 0; lane < 6; lane++) {
            WallHarbour x = Texts.with("hole 0 10; wall 10 from west 99 to 99 top 99; fog " + (lane == 0 ? 19 : 20 * lane));
            x.now(0, NOON);
            Check.same("lane " + lane + " is in fog", x.way(NONE), 0);
            Check.same("lane " + lane + " is in fog", lanes(x), due[lane]);
            Texts.harbour(x, "fog " + (20 * lane + 19));
            Check.same("lane " + lane + ", just so", lanes(x), due[lane]);
        }
        WallHarbour x = Texts.with("hole 0 10; wall 10 from west 99 to 99 top 99; fog 120");
        x.now(0, NOON);
        Check.same("no lane is in fog", x.way(NONE), 13);
        Check.same("no lane is in fog", lanes(x), due[0]);
        for (int minute : new int[] {-2, 13, Integer.MIN_VALUE, Integer.MAX_VALUE}) {
            Check.fails("minute " + minute, NO_SUCH, () -> x.way(minute));
        }
    }

    /** "from the minute of now on"; "or the way goes beyond 1439". */
    private static void lastMinutesOfTheWay() {
        WallHarbour x = Texts.with("hole 0 10; wall 10 from west 99 to 99 top 99");
        int[][] rows = {{0, 0}, {347, 0}, {348, 1}, {359, 12}, {360, 13}, {1067, 13}, {1068, 12}, {1079, 1}, {1080, 0}, {1427, 0}};
        for (int[] row : rows) {
            x.now(999, row[0]);
            Check.same("way from " + row[0], x.way(NONE), row[1]);
        }
        for (int minute : new int[] {1428, 1439}) {
            x.now(0, minute);
            for (int asked : new int[] {NONE, 0, 12, 13}) {
                Check.fails("beyond, from " + minute, NO_SUCH, () -> x.way(asked));
            }
        }
    }

    /** "a boat (a point of height 0): (TIDE is not looked at)". */
    private static void tideOnTheWay() {
        // V is 15 in lane 0; 9 lower it would be 19
        WallHarbour x = Texts.with("hole 0 10; wall 10 from west 99 to 99 top 15; tide 0 low 9; tide 1 low 9");
        x.now(0, NOON);
        Check.same("at low tide", x.way(NONE), 13);
        Texts.harbour(x, "tide 0 9; wall 10 from west 99 to 99 top 14");
        Check.same("at high tide", x.way(NONE), 0);
        Check.same("at high tide", lanes(x), "0000000000000");
        // V is 20 in lane 0, and 19 at a height of 1; the other lanes have 15 and less
        WallHarbour deep = Texts.with("hole 0 10; wall 20 from west 99 to 99 top 19; tide 0 1");
        deep.now(0, NOON);
        Check.same("at height 0 it is beyond the wall", deep.way(NONE), 0);
        Texts.harbour(deep, "wall 20 from west 99 to 99 top 20; tide 0 low 1");
        Check.same("at height 0 it is at the wall's end", deep.way(NONE), 13);
    }

    /** "by how many minutes it is SEEN by some HOLE". */
    private static void wayByAnyHole() {
        // U is 0 at X P and P Y by 10: by the hole at 0 at X 0 in all lanes
        WallHarbour x = Texts.with("hole 0 10; wall 10 from 0 to 0 top 20");
        x.now(0, NOON);
        Check.same("by one", x.way(NONE), 1);
        Texts.harbour(x, "hole 1 10");
        // by that at 1 at X 3 in lane 0, 5, 7, 9, 11, 13: nowhere that the boat is
        Check.same("the other sees it nowhere", x.way(NONE), 1);
        Texts.harbour(x, "hole west 10 10");
        // by that at - 10 at X - 30 in lane 0, - 50 in lane 1, beyond - 60 in the others
        Check.same("the third is gone about", x.way(NONE), 1);
        Check.same("the third is gone about", lanes(x), "0001000000000");
    }

    /** "SEEN at a place as if it were the TIP of a BODY": hidden by what is of lesser Y than its lane, and THERE at that minute. */
    private static void wayBehindABody() {
        String wall = "hole 0 10; wall 10 from west 99 to 99 top 99;";
        // at 19 the line is within 20 of the middle up to X 20 in lane 0, 40 in lane 1, 60 in lane 2
        WallHarbour before = Texts.with(wall + "thing 0 19 20 0 99 from 5 to 5");
        before.now(5, NOON);
        Check.same("ahead of lane 0", before.way(NONE), 0);
        Check.same("ahead of lane 0", lanes(before), "2211000001122");
        before.now(6, NOON);
        Check.same("it is gone", before.way(NONE), 13);
        // at 20 it hides nothing in lane 0, up to X 40 in lane 1, up to 60 in lane 2
        WallHarbour beside = Texts.with(wall + "thing 0 20 20 0 99 from 5 to 5");
        beside.now(5, NOON);
        Check.same("in lane 0", beside.way(NONE), 0);
        Check.same("in lane 0", lanes(beside), "2211111111122");
        WallHarbour behind = Texts.with(wall + "thing 0 120 20 0 99 from 5 to 5; thing 0 121 20 0 99 from 5 to 5");
        behind.now(5, NOON);
        Check.same("in lane 5 and behind it", behind.way(NONE), 13);
        // at 1 the line is at X by 20, .. by 120: at 0 at minute 6 alone
        int[][] ships = {{725, 725}, {726, 726}, {727, 727}, {726, 1439}, {727, 1439}, {0, 726}, {0, 725}, {0, 1439}};
        for (int[] ship : ships) {
            WallHarbour x = Texts.with(wall + "ship 0 1 0 9 10 pace 0 from " + ship[0] + " to " + ship[1]);
            x.now(5, NOON);
            int hidden = ship[0] <= 726 && 726 <= ship[1] ? 1 : 0;
            Check.same("behind a mast from " + ship[0] + " to " + ship[1], x.way(NONE), 13 - hidden);
        }
    }

    private static String lanes(WallHarbour x) {
        StringBuilder lanes = new StringBuilder();
        for (int minute = 0; minute < 13; minute++) {
            lanes.append(x.way(minute));
        }
        return lanes.toString();
    }
}
