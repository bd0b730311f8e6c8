/** A test of its own for each sentence about the tape and the texts that names a boundary; the sentence stands above it. */
public final class TextEdgeTests {
    private static final int NONE = WallHarbour.NONE;
    private static final Class<IllegalArgumentException> ILLEGAL = IllegalArgumentException.class;
    private static final Class<UnsupportedOperationException> UNSUPPORTED = UnsupportedOperationException.class;
    private static final String DOT = "thing 0 1 0 0 0 from 0 to 0";
    private static final String BOAT = "ship 0 1 0 0 0 pace 0 from 0 to 0";

    /** What a text set, read off the room. */
    private interface Reading {
        int of(WallHarbour x);
    }

    public static void main(String[] args) {
        fullTape();
        highestByteFirst();
        endsOfTheTape();
        usedUp();
        numbersOfThings();
        numbersOfShips();
        numbersOfHolesAndWalls();
        numbersOfTheWeather();
        numbersOfALaw();
        westAndLow();
        cloudsInPlace();
        mostThingsShipsHoles();
        mostTexts();
        mostLines();
        figures();
        figuresOfEach();
        words();
        blanks();
        neighboursOfSigns();
        noLine();
        deep();
        deepestHolds();
        moreMustCome();
        longestTexts();
        nothingStays();
        inPlaceOfTheLawBefore();
        latestFault();
        Check.finish("TextEdgeTests");
    }

    /** "NONE, and none come, if it would have more than 400." */
    private static void fullTape() {
        int[][] ends = {{380, 400}, {379, 399}, {381, NONE}, {399, NONE}, {400, NONE}, {0, 20}, {1, 21}};
        for (int[] row : ends) {
            WallHarbour x = new WallHarbour();
            for (int i = 1; i <= 20; i++) {
                Check.same("feed " + i, x.feed(0, 0, 0, 0, 0), 20 * i);
            }
            x.end(row[0]);
            Check.same("feed behind " + row[0], x.feed(1, 2, 3, 4, 5), row[1]);
            int now = row[1] == NONE ? row[0] : row[1];
            Check.same("no more came behind " + row[0], x.end(now + 1), false);
            Check.same("all came behind " + row[0], x.end(now), true);
        }
    }

    /** "Twenty bytes come behind the TAPE, of each number the highest first." */
    private static void highestByteFirst() {
        int[] numbers = new int[5];
        for (int at = 0; at < 20; at++) {
            for (int wrong : new int[] {0, 127, 128, 255}) {
                WallHarbour x = new WallHarbour();
                for (int i = 0; i < 5; i++) {
                    numbers[i] = 0x20202020;
                }
                int shift = 24 - 8 * (at % 4);
                numbers[at / 4] = 0x20202020 & ~(255 << shift) | wrong << shift;
                x.feed(numbers[0], numbers[1], numbers[2], numbers[3], numbers[4]);
                Check.fails("byte " + wrong + " at " + at, ILLEGAL, x::harbour);
                Check.same("byte " + wrong + " at " + at, x.fault(), at);
            }
        }
    }

    /** "The TAPE has its first n bytes alone: true; false, and nothing happens, if it has fewer, or n is below 0." */
    private static void endsOfTheTape() {
        WallHarbour x = new WallHarbour();
        Check.same("0 of 0", x.end(0), true);
        Check.same("1 of 0", x.end(1), false);
        x.feed(0x666f6720, 0x37202020, 0x20202020, 0x20202020, 0x20202020);
        for (int n : new int[] {21, 400, 401, Integer.MAX_VALUE, -1, Integer.MIN_VALUE}) {
            Check.same("end " + n + " of 20", x.end(n), false);
        }
        Check.same("all 20 are there", x.end(20), true);
        Check.same("one less", x.end(19), true);
        Check.same("it is gone", x.end(20), false);
        Check.same("none of them", x.end(0), true);
        Check.same("all are gone", x.end(1), false);
        Check.same("an empty text", x.harbour(), 1);
        Check.same("fog as it was", x.count(9), 300);
    }

    /** "Uses the TAPE up", also where the text is wrong or one too many. */
    private static void usedUp() {
        String[] texts = {"", "fog 5", "fog 0", "charge 5", "charge x"};
        for (String text : texts) {
            for (int law = 0; law < 2; law++) {
                WallHarbour x = new WallHarbour();
                int fault = law == 1 ? Texts.lawFault(x, text) : Texts.harbourFault(x, text);
                Check.same("nothing is left of " + text, x.end(1), false);
                Check.same("the tape begins anew behind " + text, x.feed(0, 0, 0, 0, 0), 20);
                Check.tell(fault >= NONE, "a fault of " + text);
            }
        }
        WallHarbour full = Texts.with("", "", "", "", "", "", "", "", "", "");
        Texts.feed(full, "fog 5");
        Check.fails("an 11th text", UNSUPPORTED, full::harbour);
        Check.same("nothing is left of an 11th text", full.end(1), false);
    }

    /**
     * "THINGS: X (- 99 to 99), Y (1 to 300), WIDE (0 to 20), LOW, HIGH (0 to 99, HIGH not below), from DAY to DAY (0 to 999)":
     * "a number out of its bounds", "a DAY, HIGH below the one before".
     */
    private static void numbersOfThings() {
        bounds("thing ", -99, 99, " 1 0 0 0 from 0 to 0", x -> x.body(0, 0));
        bounds("thing 0 ", 1, 300, " 0 0 0 from 0 to 0", x -> x.body(0, 1));
        bounds("thing 0 1 ", 0, 20, " 0 0 from 0 to 0", x -> x.body(0, 2));
        bounds("thing 0 1 0 ", 0, 99, " 99 from 0 to 0", x -> x.body(0, 3));
        bounds("thing 0 1 0 0 ", 0, 99, " from 0 to 0", x -> x.body(0, 4));
        bounds("thing 0 1 0 57 ", 57, 99, " from 0 to 0", x -> x.body(0, 4));
        bounds("thing 0 1 0 99 ", 99, 99, " from 0 to 0", x -> x.body(0, 4));
        bounds("thing 0 1 0 0 0 from ", 0, 999, " to 999", x -> x.body(0, 5));
        bounds("thing 0 1 0 0 0 from 0 to ", 0, 999, "", x -> x.body(0, 6));
        bounds("thing 0 1 0 0 0 from 123 to ", 123, 999, "", x -> x.body(0, 6));
        bounds("thing 0 1 0 0 0 from 999 to ", 999, 999, "", x -> x.body(0, 6));
    }

    /**
     * "SHIPS: AT (- 999 to 999), PACE (- 9 to 9), from MINUTE to MINUTE (0 to 1439); its X may be any then":
     * "a MINUTE below the one before".
     */
    private static void numbersOfShips() {
        bounds("ship ", -999, 999, " 1 0 0 0 pace 0 from 0 to 0", x -> x.body(10, 0));
        bounds("ship 0 ", 1, 300, " 0 0 0 pace 0 from 0 to 0", x -> x.body(10, 1));
        bounds("ship 0 1 ", 0, 20, " 0 0 pace 0 from 0 to 0", x -> x.body(10, 2));
        bounds("ship 0 1 0 ", 0, 99, " 99 pace 0 from 0 to 0", x -> x.body(10, 3));
        bounds("ship 0 1 0 0 ", 0, 99, " pace 0 from 0 to 0", x -> x.body(10, 4));
        bounds("ship 0 1 0 57 ", 57, 99, " pace 0 from 0 to 0", x -> x.body(10, 4));
        bounds("ship 0 1 0 0 0 pace ", -9, 9, " from 0 to 0", x -> {
            x.now(0, 1);
            return x.body(10, 0);
        });
        bounds("ship 0 1 0 0 0 pace 0 from ", 0, 1439, " to 1439", x -> x.body(10, 5));
        bounds("ship 0 1 0 0 0 pace 0 from 0 to ", 0, 1439, "", x -> x.body(10, 6));
        bounds("ship 0 1 0 0 0 pace 0 from 1038 to ", 1038, 1439, "", x -> x.body(10, 6));
        bounds("ship 0 1 0 0 0 pace 0 from 1439 to ", 1439, 1439, "", x -> x.body(10, 6));
        WallHarbour x = Texts.with("ship west 999 1 0 0 0 pace west 9 from 0 to 0; ship 999 1 0 0 0 pace 9 from 0 to 0");
        x.now(0, 1439);
        Check.same("far west", x.body(10, 0), -13950);
        Check.same("far east", x.body(11, 0), 13950);
    }

    /** "HOLES: P (- 50 to 50), H (1 to 50). WALL: DEEP (1 to 50), LEFT, RIGHT (- 99 to 99, RIGHT not below), TOP (0 to 99)". */
    private static void numbersOfHolesAndWalls() {
        // of the thing at 0, 1, 0 U is 11 P, V is 11 H
        bounds("hole ", -50, 50, " 1;" + DOT, x -> x.spot(0, 0, false, 0) / 11);
        bounds("hole 0 ", 1, 50, " ;" + DOT, x -> x.spot(0, 0, true, 0) / 11);
        bounds("wall ", 1, 50, " from 0 to 0 top 0", x -> x.count(11));
        bounds("wall 1 from ", -99, 99, " to 99 top 0", x -> x.count(12));
        bounds("wall 1 from west 99 to ", -99, 99, " top 0", x -> x.count(13));
        bounds("wall 1 from 17 to ", 17, 99, " top 0", x -> x.count(13));
        bounds("wall 1 from 99 to ", 99, 99, " top 0", x -> x.count(13));
        bounds("wall 1 from 0 to 0 top ", 0, 99, "", x -> x.count(14));
        String[] below = {"wall 1 from west 5 to west 6 top 0", "wall 1 from 0 to west 1 top 0"};
        int[] faults = {27, 22};
        for (int i = 0; i < below.length; i++) {
            Check.same("fault of " + below[i], Texts.harbourFault(new WallHarbour(), below[i]), faults[i]);
        }
        bounds("wall 1 from west 5 to ", -5, 99, " top 0", x -> x.count(13));
    }

    /** "FOG: 1 to 300. MOON 0 to 11, TIDES: 12 levels, - 9 to 9. CLOUDS: hours (0 to 23)". */
    private static void numbersOfTheWeather() {
        bounds("fog ", 1, 300, "", x -> x.count(9));
        bounds("moon ", 0, 11, "", x -> x.count(10));
        bounds("cloud ", 0, 23, "", x -> soleBit(x.count(8)));
        bounds("cloud 5 ", 0, 23, "", x -> soleBit(x.count(8) & ~32));
        bounds("cloud 5 6 7 8 ", 0, 23, "", x -> soleBit(x.count(8) & ~480));
        bounds("tide ", 0, 11, " 7", TextEdgeTests::soleHourOf7);
        bounds("tide 3 ", 0, 9, "", x -> x.tide(0, 180));
        bounds("tide 3 low ", 0, 9, "", x -> -x.tide(0, 180));
    }

    /** "charge N", "NUMBER": "All numbers are of 1 to 3 digits". */
    private static void numbersOfALaw() {
        for (int number : new int[] {0, 1, 999}) {
            WallHarbour x = Texts.with(DOT);
            Texts.law(x, "charge " + number);
            Check.same("charge " + number, x.charge(0), number);
            Texts.law(x, "charge 5 if 1 + 999 > " + number + " + 0 ;charge 7 if " + number + " < 999");
            Check.same("a sum with " + number, x.charge(0), number == 999 ? 5 : 12);
        }
        Check.same("charge 1000", Texts.lawFault(new WallHarbour(), "charge 1000"), 7);
        Check.same("charge below 0", Texts.lawFault(new WallHarbour(), "charge west 1"), 7);
        Check.same("1000 on the left", Texts.lawFault(new WallHarbour(), "charge 1 if 1000 < 1"), 12);
        Check.same("1000 on the right", Texts.lawFault(new WallHarbour(), "charge 1 if 1 < 1 + 1000"), 20);
    }

    /** "west: 0 less it", "low: 0 less it"; also by 0. */
    private static void westAndLow() {
        WallHarbour x = Texts.with("thing west 0 1 0 0 0 from 0 to 0; ship west 00 1 0 0 0 pace west 0 from 0 to 0;"
                + "hole west 000 1; wall 1 from west 0 to west 0 top 0; tide 0 low 0");
        Check.same("thing west 0", x.body(0, 0), 0);
        Check.same("ship west 0", x.body(10, 0), 0);
        Check.same("hole west 0", x.spot(0, 0, false, 1), 0);
        Check.same("from west 0", x.count(12), 0);
        Check.same("to west 0", x.count(13), 0);
        Check.same("tide low 0", x.tide(0, 0), 0);
        String[] twice = {"hole west west 1 1", "tide 0 low low 1", "thing 1 west 1 0 0 0 from 0 to 0", "tide 0 west 1",
            "hole low 1 1", "ship 1 1 0 0 0 pace low 1 from 0 to 0", "wall west 1 from 0 to 0 top 0"};
        int[] faults = {10, 11, 8, 7, 5, 20, 5};
        for (int i = 0; i < twice.length; i++) {
            Check.same("fault of " + twice[i], Texts.harbourFault(new WallHarbour(), twice[i]), faults[i]);
        }
    }

    /** "cloud: in place of those before; clear: none." "cloud H { H }". */
    private static void cloudsInPlace() {
        StringBuilder all = new StringBuilder("cloud");
        for (int hour = 23; hour >= 0; hour--) {
            all.append(' ').append(hour);
        }
        WallHarbour x = Texts.with(all.toString());
        Check.same("all hours", x.count(8), (1 << 24) - 1);
        Texts.harbour(x, "cloud 23 23 0 0");
        Check.same("in place of those before", x.count(8), 1 << 23 | 1);
        Texts.harbour(x, "cloud 4; cloud 5");
        Check.same("of one text too", x.count(8), 32);
        Texts.harbour(x, "clear");
        Check.same("none", x.count(8), 0);
        Texts.harbour(x, "clear; cloud 6");
        Check.same("behind a clear", x.count(8), 64);
        Texts.harbour(x, "");
        Check.same("they stay", x.count(8), 64);
    }

    /** "THINGS (at most 10)", "SHIPS (at most 6)", "HOLES (at most 3)": "of a THING, SHIP, HOLE too many, the first word". */
    private static void mostThingsShipsHoles() {
        String[] lines = {DOT, BOAT, "hole 0 1"};
        int[] most = {10, 6, 3};
        for (int kind = 0; kind < lines.length; kind++) {
            WallHarbour x = Texts.with(times(most[kind] - 1, lines[kind]));
            String two = "fog 5 ; " + lines[kind] + " ; " + lines[kind];
            Check.same("one too many behind the last", Texts.harbourFault(x, two), two.length() - lines[kind].length());
            Check.same("nor stays the last", x.count(kind), most[kind] - 1);
            Check.same("the last", Texts.harbour(x, lines[kind]), 2);
            Check.same("they are full", x.count(kind), most[kind]);
            String word = lines[kind].substring(0, lines[kind].indexOf(' '));
            Check.same("one too many", Texts.harbourFault(x, "  " + lines[kind]), 2);
            Check.same("its word alone", Texts.harbourFault(x, word), 0);
            Check.same("the others may come", Texts.harbour(x, lines[(kind + 1) % 3]), 3);
            Check.same("they are full", x.count(kind), most[kind]);
        }
    }

    /** "THE HARBOUR is told in texts (at most 10, one behind another)"; "UnsupportedOperationException: there are 10". */
    private static void mostTexts() {
        WallHarbour x = new WallHarbour();
        for (int i = 1; i <= 10; i++) {
            Check.same("a wrong text counts for nothing", Texts.harbourFault(x, "fog"), 3);
            Check.same("text " + i, Texts.harbour(x, i % 2 == 0 ? "" : "fog " + i), i);
        }
        for (String text : new String[] {"", "fog 77"}) {
            Texts.feed(x, text);
            Check.fails("an 11th text: " + text, UNSUPPORTED, x::harbour);
            Check.same("how many", x.count(3), 10);
            Check.same("fog", x.count(9), 9);
        }
        Check.same("a law may come", Texts.law(x, "charge 1"), 1);
        WallHarbour y = Texts.with(times(9, DOT), times(5, BOAT), "hole 0 1;hole 0 1", "", "", "", "", "", "");
        y.image();
        Texts.harbour(y, DOT + ";" + BOAT + ";hole 0 1");
        y.back();
        Check.same("a 10th again", Texts.harbour(y, DOT + ";" + BOAT + ";hole 0 1"), 10);
        Check.same("a 10th thing again", y.count(0), 10);
        Check.same("a 6th ship again", y.count(1), 6);
        Check.same("a 3rd hole again", y.count(2), 3);
    }

    /** "LINE { ; LINE }, at most 14", of a law "at most 12": "of a LINE too many the first word". */
    private static void mostLines() {
        String full = times(14, "fog 5");
        Check.same("14 lines", Texts.harbourFault(new WallHarbour(), full), NONE);
        String[] more = {";fog 5", "; fog", ";   fogs", "; ;", ";", ";  ", "; 5", ";thing 0 0"};
        for (String line : more) {
            int blanks = line.length() - line.substring(1).stripLeading().length();
            Check.same("14 lines and " + line, Texts.harbourFault(new WallHarbour(), full + line), full.length() + blanks);
        }
        Check.same("a wrong line ahead", Texts.harbourFault(new WallHarbour(), "fog 0;" + full), 4);
        String law = times(12, "charge 5");
        Check.same("12 lines", Texts.lawFault(new WallHarbour(), law), NONE);
        for (String line : new String[] {";charge 5", "; charge", ";  charges", "; ;", ";", ";  "}) {
            int blanks = line.length() - line.substring(1).stripLeading().length();
            Check.same("12 lines and " + line, Texts.lawFault(new WallHarbour(), law + line), law.length() + blanks);
        }
        Check.same("a wrong line ahead", Texts.lawFault(new WallHarbour(), "charge x;" + law), 7);
    }

    /** "All numbers are of 1 to 3 digits, M of 1 to 4": "a number of more digits". */
    private static void figures() {
        String[] right = {"fog 005", "fog 05", "moon 000", "ship 0 1 0 0 0 pace 000 from 0000 to 0001", "cloud 023 007"};
        for (String text : right) {
            Check.same("fault of " + text, Texts.harbourFault(new WallHarbour(), text), NONE);
        }
        String[] wrong = {"fog 0005", "fog 00000000000000000000000000000000005", "moon 0000", "cloud 7 0023",
            "ship 0 1 0 0 0 pace 0000 from 0 to 1", "ship 0 1 0 0 0 pace 0 from 00000 to 1",
            "ship 0 1 0 0 0 pace 0 from 0 to 00001", "thing 0 1 0 0 0 from 0000 to 1", "thing 0 1 0 0 0 from 0 to 0001",
            "fog 4294967297", "ship 0 1 0 0 0 pace 0 from 0 to 4294967297"};
        int[] faults = {4, 4, 5, 8, 20, 27, 32, 21, 26, 4, 32};
        for (int i = 0; i < wrong.length; i++) {
            Check.same("fault of " + wrong[i], Texts.harbourFault(new WallHarbour(), wrong[i]), faults[i]);
        }
        Check.same("charge 0005", Texts.lawFault(new WallHarbour(), "charge 0005"), 7);
        Check.same("1 < 0005", Texts.lawFault(new WallHarbour(), "charge 005 if 1<0005"), 16);
    }

    /** Each number may have three figures (of a ship's from and to four), and one more is too many. */
    private static void figuresOfEach() {
        String[] lines = {"thing west 1 1 1 1 1 from 1 to 1", "ship west 1 1 1 1 1 pace west 1 from 1 to 1", "hole west 1 1",
            "wall 1 from west 1 to west 1 top 1", "cloud 1 1", "fog 1", "moon 1", "tide 1 low 1", "charge 1 if 1<1+1"};
        for (String line : lines) {
            boolean isLaw = line.startsWith("charge");
            int number = 0;
            for (int at = 0; at < line.length(); at++) {
                if (line.charAt(at) == '1') {
                    number++;
                    boolean isMinute = line.startsWith("ship") && number > 6;
                    String most = line.substring(0, at) + (isMinute ? "000" : "00") + line.substring(at);
                    String more = line.substring(0, at) + (isMinute ? "0000" : "000") + line.substring(at);
                    WallHarbour x = new WallHarbour();
                    Check.same("figures of " + most, isLaw ? Texts.lawFault(x, most) : Texts.harbourFault(x, most), NONE);
                    Check.same("figures of " + more, isLaw ? Texts.lawFault(x, more) : Texts.harbourFault(x, more), at);
                }
            }
        }
    }

    /** "Words are as long as a to z go on": "a word that is none". */
    private static void words() {
        String[] texts = {"fogs 5", "fo 5", "fogfog 5", "clearfog 5", "fog5moon 5", "hole westwest 5 5", "hole wes 5 5",
            "thing 0 1 0 0 0 fro 0 to 0", "thing 0 1 0 0 0 from 0 too 0", "thing 0 1 0 0 0from0to0", "wall1from2to3top4",
            "tide5low6", "tide 5 lowest 6", "ship1 1 1 1 1pacewest1from1to1", "a", "z", "clear a", "charge 5"};
        int[] faults = {0, 0, 0, 0, 4, 5, 5, 16, 23, NONE, NONE, NONE, 7, 13, 0, 0, 6, 0};
        for (int i = 0; i < texts.length; i++) {
            Check.same("fault of " + texts[i], Texts.harbourFault(new WallHarbour(), texts[i]), faults[i]);
        }
        String[] laws = {"charges 5", "charg 5", "charge5if1<2and3<4or5<6", "charge 5 iff seen", "charge 5 if seenor ship",
            "charge 5 if notseen", "charge 5 if seen andship", "charge 5 if(seen)and(ship)or not(seen)", "fog 5",
            "charge 5 if hours<5", "charge 5 if farfar<5", "charge 5 if 5far<5", "charge 5 ifseen"};
        int[] lawFaults = {0, 0, NONE, 9, 12, 12, 17, NONE, 0, 12, 12, 13, 9};
        for (int i = 0; i < laws.length; i++) {
            Check.same("fault of " + laws[i], Texts.lawFault(new WallHarbour(), laws[i]), lawFaults[i]);
        }
    }

    /** "between all there may be blanks (32), also ahead and behind." */
    private static void blanks() {
        String[] texts = {"thing west 1 2 3 4 5 from 6 to 7;fog 8", "ship 1 2 3 4 5 pace west 6 from 7 to 8;cloud 9 10;clear",
            "hole west 1 2;wall 3 from west 4 to 5 top 6;tide 7 low 8;moon 9"};
        for (String text : texts) {
            String wide = "   " + text.replace(" ", "    ").replace(";", "   ;   ") + "   ";
            Check.same("fault of " + wide, Texts.harbourFault(new WallHarbour(), wide), NONE);
            Check.same("the same is read", Portrait.of(Texts.with(wide)), Portrait.of(Texts.with(text)));
        }
        String law = "charge 1 if(far+2<wide+3)or not seen and ship;charge 4";
        String wide = "  " + law.replace(" ", "   ").replaceAll("([(+<);])", "  $1  ") + "  ";
        Check.same("fault of " + wide, Texts.lawFault(new WallHarbour(), wide), NONE);
        String[] others = {"fog\t5", "fog\n5", "fog\r5", "fog\u00a05", "fog\0005", "\tfog 5", "fog 5\t", "fog 5\0"};
        int[] faults = {3, 3, 3, 3, 3, 0, 5, 5};
        for (int i = 0; i < others.length; i++) {
            Check.same("no blank " + i, Texts.harbourFault(new WallHarbour(), others[i]), faults[i]);
        }
    }

    /** The signs next to those that may stand: "the begin of the first thing that cannot stand there". */
    private static void neighboursOfSigns() {
        String[] texts = {"fog`5", "fog{5", "fog 5/", "fog 5:", "fog /5", "fog :5", "fog 5,", "fog 5!", "Fog 5", "foG 5", "fog@5",
            "fog[5", "fog -5", "fog +5", "fog 5.0", "{", "`", "!"};
        int[] faults = {3, 3, 5, 5, 4, 4, 5, 5, 0, 0, 3, 3, 4, 4, 5, 0, 0, 0};
        for (int i = 0; i < texts.length; i++) {
            Check.same("fault of " + texts[i], Texts.harbourFault(new WallHarbour(), texts[i]), faults[i]);
        }
        String[] laws = {"charge 1 if 1=2", "charge 1 if 1<=2", "charge 1 if 1<>2", "charge 1 if 1,2", "charge 1 if 1*2<3",
            "charge 1 if 1-2<3", "charge 1 if [seen]", "charge 1 if 'seen", "charge 1 if )seen", "charge 1 if (seen(",
            "charge 1 if +1<2", "charge 1 if 1++1<2", "charge 1 if <2", "charge 1 if 1<2+", "charge 1 if (1)<2"};
        int[] lawFaults = {13, 14, 14, 13, 13, 13, 12, 12, 12, 17, 12, 14, 12, 16, 14};
        for (int i = 0; i < laws.length; i++) {
            Check.same("fault of " + laws[i], Texts.lawFault(new WallHarbour(), laws[i]), lawFaults[i]);
        }
    }

    /** "A text that is empty, or blanks alone, has no LINE." */
    private static void noLine() {
        for (int blanks : new int[] {0, 1, 20, 399, 400}) {
            String text = " ".repeat(blanks);
            WallHarbour x = new WallHarbour();
            String before = Portrait.of(x);
            Check.same(blanks + " blanks", Texts.harbour(x, text), 1);
            Check.same("no fault", x.fault(), NONE);
            Check.same("no law yet", x.count(4), NONE);
            Check.same(blanks + " blanks, a law", Texts.law(x, text), 0);
            Check.same("a law without a line", x.count(4), 0);
            x.law();
            Check.same("nothing else", Portrait.of(x), before.replace("3:0 4:-1", "3:1 4:0"));
        }
        Check.same("a ; alone", Texts.harbourFault(new WallHarbour(), ";"), 0);
        Check.same("a ; alone", Texts.lawFault(new WallHarbour(), " ;"), 1);
        Check.same("a ; behind", Texts.harbourFault(new WallHarbour(), "clear;"), 6);
        Check.same("a ; behind", Texts.lawFault(new WallHarbour(), "charge 1; "), 10);
        Check.same("two ;", Texts.harbourFault(new WallHarbour(), "clear;;clear"), 6);
        Check.same("two ;", Texts.lawFault(new WallHarbour(), "charge 1; ;charge 1"), 10);
    }

    /** "( and not within one another at most 6 deep": "the ( or not that is a 7th one deep". */
    private static void deep() {
        // every mix of ( and not, as bits
        for (int mix = 0; mix < 64; mix++) {
            StringBuilder open = new StringBuilder();
            StringBuilder close = new StringBuilder();
            for (int i = 0; i < 6; i++) {
                boolean isNot = (mix >> i & 1) == 1;
                open.append(isNot ? " not" : " (");
                close.append(isNot ? "" : ")");
            }
            String head = "charge 1 if" + open + " ";
            Check.same("6 deep: " + head, Texts.lawFault(new WallHarbour(), head + "seen" + close), NONE);
            Check.same("7 deep: " + head, Texts.lawFault(new WallHarbour(), head + "(seen)" + close), head.length());
            Check.same("7 deep: " + head, Texts.lawFault(new WallHarbour(), head + "not seen" + close), head.length());
            // a not ends with its atom, a ( does not
            Check.same("7 deep, not the first: " + head, Texts.lawFault(new WallHarbour(), head + "seen or not seen" + close),
                    (mix >> 5 & 1) == 1 ? NONE : head.length() + 8);
        }
        Check.same("side by side", Texts.lawFault(new WallHarbour(), "charge 1 if not seen" + " and not seen".repeat(20)), NONE);
        Check.same("side by side", Texts.lawFault(new WallHarbour(), "charge 1 if (seen)" + " or (((((seen)))))".repeat(20)), NONE);
        Check.same("a not ends with its atom",
                Texts.lawFault(new WallHarbour(), "charge 1 if not not not not not not seen and not not not not not not ship"), NONE);
        Check.same("each line anew", Texts.lawFault(new WallHarbour(), "charge 1 if ((((((seen))))));charge 1 if not (((((seen)))))"),
                NONE);
    }

    /** What is deepest still holds or fails: each of its levels waits for the next behind an or and an and. */
    private static void deepestHolds() {
        for (int low = 0; low <= 2; low++) {
            String head = "ship or not ship and (".repeat(6);
            WallHarbour x = Texts.with(DOT);
            Texts.law(x, "charge 7 if " + head + "ship or 0<1 and 1+1>0+1+" + low + ")))))) ;charge 100");
            Check.same("deepest: 1 + 1 > 0 + 1 + " + low, x.charge(0), low == 0 ? 107 : 100);
        }
    }

    /** "or the text's length, if more must come". */
    private static void moreMustCome() {
        String[] lines = {"thing west 1 2 3 4 5 from 6 to 7", "ship west 1 2 3 4 5 pace west 6 from 7 to 8", "hole west 1 2",
            "wall 3 from west 4 to 5 top 6", "cloud 7", "fog 8", "moon 9", "tide 1 low 2", "clear ; fog 8", "cloud 1 ; hole 2 3"};
        for (String line : lines) {
            cutShort(line, false, -1);
        }
        cutShort("tide 1 2", false, -1);
        cutShort("charge 5", true, -1);
        cutShort("charge 5 if seen", true, 2);
        cutShort("charge 5 if not ship", true, 2);
        cutShort("charge 5 if 1 + far < wide", true, 2);
        cutShort("charge 5 if ( ( 1 + 2 > 3 ) )", true, 2);
        cutShort("charge 5 if seen or ship", true, 2, 4);
        cutShort("charge 5 if seen and ship", true, 2, 4);
        cutShort("charge 5 if 1 < 2 + 3", true, 2, 6);
        cutShort("charge 5 ; charge 6", true, 2);
    }

    /** Cuts a text behind each of its words; behind those told, the text is right. */
    private static void cutShort(String text, boolean isLaw, int... right) {
        String[] words = text.split(" ");
        StringBuilder cut = new StringBuilder();
        for (int n = 1; n <= words.length; n++) {
            cut.append(n == 1 ? "" : " ").append(words[n - 1]);
            boolean isRight = n == words.length || words[n - 1].equals("clear") || text.startsWith("cloud") && n == 2;
            for (int each : right) {
                isRight |= n == each;
            }
            for (String behind : new String[] {"", " ", "    "}) {
                String all = cut + behind;
                WallHarbour x = new WallHarbour();
                int fault = isLaw ? Texts.lawFault(x, all) : Texts.harbourFault(x, all);
                Check.same("fault of " + all + "|", fault, isRight ? NONE : all.length());
            }
        }
    }

    /** Texts that take the whole tape: "the text's length" is then 400. */
    private static void longestTexts() {
        Check.same("fog, blanks", Texts.harbourFault(new WallHarbour(), "fog" + " ".repeat(397)), 400);
        Check.same("blanks, fog", Texts.harbourFault(new WallHarbour(), " ".repeat(397) + "fog"), 400);
        Check.same("blanks, fog 5", Texts.harbourFault(new WallHarbour(), " ".repeat(395) + "fog 5"), NONE);
        Check.same("blanks, fog x", Texts.harbourFault(new WallHarbour(), " ".repeat(395) + "fog x"), 399);
        Check.same("letters", Texts.harbourFault(new WallHarbour(), "a".repeat(400)), 0);
        Check.same("figures", Texts.harbourFault(new WallHarbour(), "fog " + "1".repeat(396)), 4);
        Check.same("clouds", Texts.harbourFault(new WallHarbour(), "cloud" + " 1".repeat(197) + " "), NONE);
        Check.same("clouds", Texts.harbourFault(new WallHarbour(), "cloud 11" + " 1".repeat(195) + "99"), 397);
        WallHarbour x = Texts.with(DOT);
        String sum = "charge 1 if 1" + "+1".repeat(191) + "<193";
        Check.same("a sum of 192", sum.length(), 399);
        Check.same("a sum of 192", Texts.lawFault(x, sum), NONE);
        Check.same("a sum of 192", x.charge(0), 1);
        Check.same("a sum of 192", Texts.lawFault(x, sum.replace("193", "192")), NONE);
        Check.same("a sum of 192", x.charge(0), 0);
        Check.same("a sum without an end", Texts.lawFault(x, "charge 1 if 1" + "+1".repeat(193) + "+"), 400);
        String ands = "charge 100 if 1<2" + "and 1<2".repeat(54);
        Check.same("55 atoms", Texts.lawFault(x, ands + " "), NONE);
        Check.same("55 atoms", x.charge(0), 100);
        Check.same("a (", Texts.lawFault(x, "charge 1 if " + "(".repeat(388)), 18);
        Check.same("a not", Texts.lawFault(x, "charge 1 if" + " not".repeat(97) + " "), 36);
        Check.same("it stays", x.charge(0), 100);
    }

    /** "Of a wrong text nothing stays." */
    private static void nothingStays() {
        String rich = "thing 1 2 3 4 5 from 0 to 7; ship 8 9 1 1 2 pace 1 from 0 to 3; hole 1 2";
        String all = "thing 2 2 2 2 2 from 2 to 2; ship 2 2 2 2 2 pace 2 from 2 to 2; hole 2 2; wall 2 from 2 to 2 top 2;"
                + "cloud 2; fog 2; moon 2; tide 2 2";
        String weather = "cloud 9; fog 8; moon 7; tide 6 5; wall 4 from 3 to 12 top 11";
        String law = "charge 5 if far < 30; charge 6 if not seen";
        for (String end : new String[] {";", "; fog 0", "; clear; hole 2", " 2", "; clear clear", "; thing 2 2 2 2 2 from 2 to 1"}) {
            WallHarbour x = Texts.with(rich, weather);
            Texts.law(x, law);
            String before = Portrait.of(x);
            Check.tell(Texts.harbourFault(x, all + end) >= all.length(), "a fault behind all");
            Check.same("nothing stays of " + end, Portrait.of(x), before);
        }
        for (String end : new String[] {";", "; charge", "; charge 2 if", " 2"}) {
            WallHarbour x = Texts.with(rich, weather);
            Texts.law(x, law);
            String before = Portrait.of(x);
            Check.tell(Texts.lawFault(x, "charge 1; charge 2 if far > 1" + end) >= 29, "a fault behind all");
            Check.same("nothing stays of " + end, Portrait.of(x), before);
        }
        WallHarbour cloudy = Texts.with(weather);
        Check.same("the clear alone", Texts.harbourFault(cloudy, "clear; x"), 7);
        Check.same("the clouds stay", cloudy.count(8), 1 << 9);
        WallHarbour y = new WallHarbour();
        Check.same("a wrong first law", Texts.lawFault(y, "charge 1; charge"), 16);
        Check.same("no law", y.count(4), NONE);
    }

    /** "LAW: a text, in place of the one before"; "0 without a text". */
    private static void inPlaceOfTheLawBefore() {
        WallHarbour x = Texts.with(DOT);
        Check.same("without a text", x.charge(0), 0);
        Check.same("without a text", x.charges(0), 0);
        Check.same("twelve lines", Texts.law(x, times(12, "charge 999")), 12);
        Check.same("twelve lines", x.charge(0), 12 * 999);
        Check.same("twelve lines, all day", x.charges(0), 24 * 12 * 999);
        Check.same("one line in their place", Texts.law(x, "charge 3 if 1 > 2"), 1);
        Check.same("none of them holds", x.charge(0), 0);
        Check.same("one line", x.count(4), 1);
        Check.same("no line in its place", Texts.law(x, ""), 0);
        Check.same("none holds", x.charge(0), 0);
        Check.same("laws are no texts of the harbour", x.count(3), 1);
    }

    /** "The first wrong byte of the latest text that was read; NONE without one, and ahead of any." */
    private static void latestFault() {
        WallHarbour x = new WallHarbour();
        Check.same("ahead of any", x.fault(), NONE);
        Texts.feed(x, "fog 0");
        Check.same("not read yet", x.fault(), NONE);
        Check.fails("read", ILLEGAL, x::harbour);
        Check.same("of the harbour", x.fault(), 4);
        Texts.feed(x, "charge x");
        Check.same("until the next is read", x.fault(), 4);
        Check.fails("read", ILLEGAL, x::law);
        Check.same("of the law", x.fault(), 7);
        x.image();
        Check.same("an empty text", x.harbour(), 1);
        Check.same("without one", x.fault(), NONE);
        x.back();
        Check.same("not of the image", x.fault(), NONE);
        Check.same("a fault at 0", Texts.lawFault(x, "x"), 0);
        Check.same("a right law", Texts.lawFault(x, ""), NONE);
        WallHarbour y = Texts.with("", "", "", "", "", "", "", "", "", "");
        Check.same("a wrong 11th", Texts.harbourFault(y, "  x"), 2);
        Texts.feed(y, "fog 5");
        Check.fails("a right 11th", UNSUPPORTED, y::harbour);
        Check.same("that was read, without a wrong byte", y.fault(), NONE);
    }

    /** A number stands between ahead and behind: the least and the most are read, one less and one more are the fault. */
    private static void bounds(String ahead, int least, int most, String behind, Reading reading) {
        for (String lead : new String[] {"", " moon 0 ; "}) {
            read(lead + ahead, least, behind, reading);
            read(lead + ahead, most, behind, reading);
            refuse(lead + ahead, least - 1, behind, least < 0);
            refuse(lead + ahead, most + 1, behind, least < 0);
        }
    }

    private static void read(String ahead, int number, String behind, Reading reading) {
        String text = ahead + told(number) + behind;
        WallHarbour x = new WallHarbour();
        Check.same("fault of " + text, Texts.harbourFault(x, text), NONE);
        Check.same("what is read off " + text, reading.of(x), number);
    }

    /** Where no west may stand, it is the west that is wrong. */
    private static void refuse(String ahead, int number, String behind, boolean isSideways) {
        String text = ahead + told(number) + behind;
        int west = number < 0 && isSideways ? 5 : 0;
        Check.same("fault of " + text, Texts.harbourFault(new WallHarbour(), text), ahead.length() + west);
    }

    private static String told(int number) {
        return number < 0 ? "west " + -number : "" + number;
    }

    private static int soleBit(int bits) {
        return Integer.bitCount(bits) == 1 ? Integer.numberOfTrailingZeros(bits) : -1;
    }

    private static int soleHourOf7(WallHarbour x) {
        int bits = 0;
        for (int hour = 0; hour < 12; hour++) {
            bits |= x.tide(0, 60 * hour) == 7 ? 1 << hour : 0;
        }
        return soleBit(bits);
    }

    private static String times(int n, String line) {
        StringBuilder text = new StringBuilder(line);
        for (int i = 1; i < n; i++) {
            text.append(';').append(line);
        }
        return text.toString();
    }
}
