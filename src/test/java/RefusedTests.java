import java.util.NoSuchElementException;

/** Calls that are refused: which of several exceptions comes, and that nothing else does. */
public final class RefusedTests {
    private static final int NONE = WallHarbour.NONE;
    private static final int NOON = 720;
    private static final int[] FAR = {Integer.MIN_VALUE, -1_000_000, -2, 1_000_000, Integer.MAX_VALUE};
    private static final Class<IllegalArgumentException> ILLEGAL = IllegalArgumentException.class;
    private static final Class<IndexOutOfBoundsException> INDEX = IndexOutOfBoundsException.class;
    private static final Class<UnsupportedOperationException> UNSUPPORTED = UnsupportedOperationException.class;
    private static final Class<NoSuchElementException> NO_SUCH = NoSuchElementException.class;

    /** A call of a room. */
    private interface Asked {
        int of(WallHarbour x);
    }

    private static WallHarbour room;
    private static String before;

    public static void main(String[] args) {
        textsTold();
        timesTold();
        bodiesTold();
        tracingsTold();
        findingsTold();
        settingsAndWaysTold();
        noBodyNoHoleNoTracing();
        ofANewObject();
        farArguments();
        theTapeAlone();
        aWrongTextUsesItUpAlone();
        Check.finish("RefusedTests");
    }

    /** A room in which each row of each kind has something, at noon of day 6, with an image of another time. */
    private static WallHarbour rich() {
        WallHarbour x = Texts.with("hole 0 10; hole 1 9; thing 3 50 1 2 12 from 5 to 7; ship west 700 60 2 3 4 pace 1 from 600 to 800;"
                + "wall 9 from west 30 to 31 top 32; cloud 8; fog 200; moon 3; tide 0 1; tide 1 low 2");
        Texts.law(x, "charge 5 if seen; charge 3");
        x.now(5, NOON);
        x.image();
        x.now(6, NOON);
        x.trace(5, 700, 0, -1, 9);
        x.trace(5, 710, 0, -2, 9);
        x.trace(5, 700, 1, -1, 9);
        return x;
    }

    /** Asks a rich room for what is to be refused: it stays as it was, and so do its tape and its image. */
    private static void refused(String what, Class<? extends RuntimeException> due, Asked call) {
        if (room == null) {
            room = rich();
            before = Portrait.of(room);
        }
        WallHarbour x = rich();
        Texts.feed(x, "fog 123");
        Check.fails(what, due, () -> call.of(x));
        Check.same(what + ": all stays", Portrait.of(x), before);
        Check.same(what + ": no fault", x.fault(), NONE);
        Check.same(what + ": nothing more on the tape", x.end(8), false);
        Check.same(what + ": the tape stays", x.end(7), true);
        Check.same(what + ": the tape's text", x.harbour(), 2);
        Check.same(what + ": the tape's fog", x.count(9), 123);
        Check.same(what + ": the image stays", x.back(), true);
        Check.same(what + ": the image's day", x.count(5), 5);
        Check.same(what + ": the image's tracings", x.count(7), 0);
    }

    /** "IllegalArgumentException: it is wrong; UnsupportedOperationException: there are 10": the one told first. */
    private static void textsTold() {
        WallHarbour x = Texts.with("", "", "", "", "", "", "", "", "", "");
        Texts.feed(x, "fog 0");
        Check.fails("wrong, and one too many", ILLEGAL, x::harbour);
        Check.same("its fault", x.fault(), 4);
        Texts.feed(x, "fog 1");
        Check.fails("one too many", UNSUPPORTED, x::harbour);
        Check.same("fog stays", x.count(9), 300);
        Check.same("texts stay", x.count(3), 10);
        Check.fails("an empty one too many", UNSUPPORTED, x::harbour);
        Texts.feed(x, "charge 1; charge x");
        Check.fails("a wrong law", ILLEGAL, x::law);
        Check.same("no law", x.count(4), NONE);
    }

    /** "IllegalArgumentException: DAY or minute are none." */
    private static void timesTold() {
        int[][] times = {{-1, 0}, {1000, 0}, {0, -1}, {0, 1440}, {-1, -1}, {1000, 1440}, {Integer.MIN_VALUE, 5}, {5, Integer.MAX_VALUE}};
        for (int[] time : times) {
            refused("now " + time[0] + " " + time[1], ILLEGAL, x -> x.now(time[0], time[1]));
            refused("tide " + time[0] + " " + time[1], ILLEGAL, x -> x.tide(time[0], time[1]));
        }
        for (int day : new int[] {-1, 1000, Integer.MIN_VALUE, Integer.MAX_VALUE}) {
            refused("charges " + day, ILLEGAL, x -> x.charges(day));
        }
        WallHarbour x = rich();
        Check.same("the first day's charges: the ship's at 600, 660, 720 and 780, seen or not", x.charges(0) >= 12, true);
        Check.same("the last day's, as on any without the thing", x.charges(999), x.charges(998));
        Check.same("the first tide", x.tide(0, 0), 1);
        Check.same("the last day's tide", x.tide(999, 240), -2);
    }

    /** IndexOutOfBoundsException ahead of NoSuchElementException. */
    private static void bodiesTold() {
        refused("no body, no what", INDEX, x -> x.body(1, 8));
        refused("no what", NO_SUCH, x -> x.body(0, 8));
        refused("no what below", NO_SUCH, x -> x.body(10, -1));
        refused("no body, hole, what", INDEX, x -> x.spot(1, 2, true, 3));
        refused("no body, no what", INDEX, x -> x.spot(1, 0, true, 3));
        refused("no hole, no what", INDEX, x -> x.spot(0, 2, false, 3));
        refused("no what", NO_SUCH, x -> x.spot(0, 0, false, 3));
        refused("no what below", NO_SUCH, x -> x.spot(10, 1, true, -1));
        refused("no body, no hole", INDEX, x -> x.seen(1, 2) ? 1 : 0);
        refused("no body, no hole", INDEX, x -> x.hider(1, 2));
        refused("no body", INDEX, x -> x.charge(1));
    }

    /** Of a tracing: no HOLE, then no DAY, minute, U or V, then there are 40; of a drawing: no BODY, no HOLE, then not SEEN. */
    private static void tracingsTold() {
        refused("no hole, day, minute, U, V", INDEX, x -> x.trace(-1, -1, 2, 1000, 1000));
        refused("no hole below", INDEX, x -> x.trace(0, 0, -1, 0, 0));
        refused("no day", ILLEGAL, x -> x.trace(-1, 0, 0, 0, 0));
        refused("no minute", ILLEGAL, x -> x.trace(0, 1440, 0, 0, 0));
        refused("no U", ILLEGAL, x -> x.trace(0, 0, 0, -1000, 0));
        refused("no V", ILLEGAL, x -> x.trace(0, 0, 0, 0, 1000));
        refused("no body to draw", INDEX, x -> x.draw(1, 0));
        refused("no hole to draw by", INDEX, x -> x.draw(0, 2));
        refused("no tracing", INDEX, x -> x.which(3));
        refused("no thing", INDEX, x -> x.when(1, true));
        refused("a ship", INDEX, x -> x.when(10, true));
        WallHarbour full = rich();
        for (int i = 3; i < 40; i++) {
            full.trace(0, 0, 0, 0, 0);
        }
        Check.fails("no hole, and 40", INDEX, () -> full.trace(-1, 0, 2, 0, 0));
        Check.fails("no day, and 40", ILLEGAL, () -> full.trace(-1, 0, 0, 0, 0));
        Check.fails("no minute, and 40", ILLEGAL, () -> full.trace(0, -1, 0, 0, 0));
        Check.fails("no U, and 40", ILLEGAL, () -> full.trace(0, 0, 0, 1000, 0));
        Check.fails("no V, and 40", ILLEGAL, () -> full.trace(0, 0, 0, 0, -1000));
        Check.fails("40", UNSUPPORTED, () -> full.trace(0, 0, 0, 0, 0));
        Check.same("thing 0 is seen", full.seen(0, 0), true);
        Check.fails("40, and seen", UNSUPPORTED, () -> full.draw(0, 0));
        Check.fails("40, and no body", INDEX, () -> full.draw(1, 0));
        Check.fails("40, and no hole", INDEX, () -> full.draw(0, 2));
        full.now(8, NOON);
        Check.same("40, and not seen", full.draw(0, 0), NONE);
        Check.same("there are 40", full.count(7), 40);
    }

    private static void findingsTold() {
        refused("no tracing, Z, E, what", ILLEGAL, x -> x.places(0, 100, 31, 3));
        refused("no tracing, no what", ILLEGAL, x -> x.places(8, 0, 0, 3));
        refused("no Z, no what", ILLEGAL, x -> x.places(1, -100, 0, -1));
        refused("no E, no what", ILLEGAL, x -> x.places(1, 0, 31, 3));
        refused("no what", NO_SUCH, x -> x.places(1, 0, 0, 3));
        refused("no tracings, Y, what", INDEX, x -> x.paces(3, 3, 0, 3));
        refused("no second, Y, what", INDEX, x -> x.paces(0, -1, 301, 3));
        refused("one tracing, no what", ILLEGAL, x -> x.paces(1, 1, 10, 3));
        refused("two holes, no what", ILLEGAL, x -> x.paces(1, 2, 10, 3));
        refused("no Y, no what", ILLEGAL, x -> x.paces(0, 1, 0, 3));
        refused("no what", NO_SUCH, x -> x.paces(0, 1, 10, 3));
        refused("no what below", NO_SUCH, x -> x.paces(0, 1, 10, -1));
        refused("no hole, X, Y", INDEX, x -> x.mark(100, 0, 2, 0, true));
        refused("no X", ILLEGAL, x -> x.mark(100, 1, 0, 0, true));
        refused("no Y", ILLEGAL, x -> x.mark(0, 301, 1, 0, false));
    }

    private static void settingsAndWaysTold() {
        refused("no body never, no what", INDEX, x -> x.setting(1, 1, 4));
        refused("no body never", INDEX, x -> x.setting(1, -2, 0));
        refused("no what", NO_SUCH, x -> x.setting(1, NONE, 4));
        refused("no what below", NO_SUCH, x -> x.setting(1, 0, -1));
        refused("no minute", NO_SUCH, x -> x.way(13));
        refused("no minute below", NO_SUCH, x -> x.way(-2));
        refused("no hole, both are one", INDEX, x -> x.met(0, 0, 2));
        refused("no bodies, both are one", INDEX, x -> x.met(1, 1, 0));
        refused("no first", INDEX, x -> x.met(1, 0, 0));
        refused("no second", INDEX, x -> x.met(0, 16, 0));
        refused("both are one", ILLEGAL, x -> x.met(10, 10, 1));
        WallHarbour late = rich();
        late.now(0, 1428);
        String portrait = Portrait.of(late);
        for (int minute = -2; minute <= 13; minute++) {
            int asked = minute;
            Check.fails("beyond 1439", NO_SUCH, () -> late.way(asked));
        }
        Check.same("all stays", Portrait.of(late), portrait);
    }

    /** "IndexOutOfBoundsException: there is no such BODY, HOLE, TRACING": beside each that there is. */
    private static void noBodyNoHoleNoTracing() {
        for (int body : new int[] {-1, 1, 9, 11, 15, 16, 17, 26, 32}) {
            refused("body " + body, INDEX, x -> x.body(body, 0));
            refused("spot of " + body, INDEX, x -> x.spot(body, 0, true, 0));
            refused("seen " + body, INDEX, x -> x.seen(body, 0) ? 1 : 0);
            refused("hider of " + body, INDEX, x -> x.hider(body, 0));
            refused("charge of " + body, INDEX, x -> x.charge(body));
            refused("draw " + body, INDEX, x -> x.draw(body, 0));
            refused("met " + body, INDEX, x -> x.met(body, 0, 0));
            refused("met by " + body, INDEX, x -> x.met(10, body, 0));
            if (body != NONE) {
                refused("never " + body, INDEX, x -> x.setting(1, body, 0));
            }
        }
        for (int hole : new int[] {-1, 2, 3, 4}) {
            refused("spot by " + hole, INDEX, x -> x.spot(0, hole, true, 0));
            refused("seen by " + hole, INDEX, x -> x.seen(0, hole) ? 1 : 0);
            refused("hider by " + hole, INDEX, x -> x.hider(0, hole));
            refused("draw by " + hole, INDEX, x -> x.draw(0, hole));
            refused("trace by " + hole, INDEX, x -> x.trace(0, 0, hole, 0, 0));
            refused("mark by " + hole, INDEX, x -> x.mark(0, 1, hole, 0, true));
            refused("met by " + hole, INDEX, x -> x.met(0, 10, hole));
        }
        for (int tracing : new int[] {-1, 3, 4, 39, 40}) {
            refused("which " + tracing, INDEX, x -> x.which(tracing));
            refused("paces of " + tracing, INDEX, x -> x.paces(tracing, 0, 1, 0));
            refused("paces to " + tracing, INDEX, x -> x.paces(0, tracing, 1, 0));
        }
        Check.same("thing 0", rich().body(0, 1), 50);
        Check.same("ship 0", rich().body(10, 1), 60);
        Check.same("the last hole", rich().spot(0, 1, true, 0), 8);
        Check.same("the first tracing", rich().which(0), 1);
        Check.same("the last tracing", rich().which(2), 0);
    }

    /** Of a new object, in which there is nothing, whatever else is wrong. */
    private static void ofANewObject() {
        WallHarbour x = new WallHarbour();
        for (int i = 0; i < 16; i++) {
            int body = i;
            Check.fails("body " + i, INDEX, () -> x.body(body, 0));
            Check.fails("charge " + i, INDEX, () -> x.charge(body));
            Check.fails("when " + i, INDEX, () -> x.when(body, true));
            Check.fails("setting " + i, INDEX, () -> x.setting(0, body, 0));
            Check.fails("met " + i, INDEX, () -> x.met(body, 0, 0));
        }
        Check.fails("spot", INDEX, () -> x.spot(0, 0, true, 0));
        Check.fails("seen", INDEX, () -> x.seen(0, 0));
        Check.fails("hider", INDEX, () -> x.hider(0, 0));
        Check.fails("draw", INDEX, () -> x.draw(0, 0));
        Check.fails("trace", INDEX, () -> x.trace(0, 0, 0, 0, 0));
        Check.fails("which", INDEX, () -> x.which(0));
        Check.fails("places", ILLEGAL, () -> x.places(1, 0, 0, 0));
        Check.fails("paces", INDEX, () -> x.paces(0, 1, 1, 0));
        Check.fails("mark", INDEX, () -> x.mark(0, 1, 0, 0, true));
    }

    /** Numbers of any size are refused as those next to the bounds are. */
    private static void farArguments() {
        for (int far : FAR) {
            refused("body " + far, INDEX, x -> x.body(far, 0));
            refused("body's what " + far, NO_SUCH, x -> x.body(0, far));
            refused("spot's what " + far, NO_SUCH, x -> x.spot(0, 0, true, far));
            refused("seen " + far, INDEX, x -> x.seen(far, far) ? 1 : 0);
            refused("hider's hole " + far, INDEX, x -> x.hider(0, far));
            refused("charge " + far, INDEX, x -> x.charge(far));
            refused("draw " + far, INDEX, x -> x.draw(far, 0));
            refused("draw by " + far, INDEX, x -> x.draw(0, far));
            refused("which " + far, INDEX, x -> x.which(far));
            refused("when " + far, INDEX, x -> x.when(far, false));
            refused("trace day " + far, ILLEGAL, x -> x.trace(far, 0, 0, 0, 0));
            refused("trace minute " + far, ILLEGAL, x -> x.trace(0, far < 0 ? far : far + 1439, 0, 0, 0));
            refused("trace U " + far, ILLEGAL, x -> x.trace(0, 0, 0, far < -2 ? far : 1000, 0));
            refused("paces " + far, INDEX, x -> x.paces(far, far, 1, 0));
            refused("paces at " + far, ILLEGAL, x -> x.paces(0, 1, far, 0));
            refused("mark at " + far, ILLEGAL, x -> x.mark(0, far, 0, 0, true));
            refused("never " + far, INDEX, x -> x.setting(far, far, 0));
            refused("setting's what " + far, NO_SUCH, x -> x.setting(far, NONE, far));
            refused("way " + far, NO_SUCH, x -> x.way(far));
            refused("met " + far, INDEX, x -> x.met(0, far, 0));
            Check.same("count " + far, rich().count(far), -1000);
            Check.same("end " + far, rich().end(far), false);
        }
    }

    /** "a call that throws changes nothing but the TAPE, where it is used up": nor does one that answers NONE or false. */
    private static void theTapeAlone() {
        WallHarbour x = rich();
        String portrait = Portrait.of(x);
        Texts.feed(x, "a".repeat(400));
        Check.same("full", x.feed(1, 2, 3, 4, 5), NONE);
        Check.same("beyond", x.end(401), false);
        Check.same("below", x.end(-1), false);
        Check.same("all 400 are there", x.end(400), true);
        Check.same("all stays", Portrait.of(x), portrait);
        WallHarbour empty = new WallHarbour();
        Check.same("nothing to undo", empty.undo(), NONE);
        Check.same("nothing to go back to", empty.back(), false);
        Check.same("all stays", Portrait.of(empty), Portrait.of(new WallHarbour()));
    }

    private static void aWrongTextUsesItUpAlone() {
        String[] texts = {"fog 0", "moon 1; tide 3 3; fog 0", "hole 5 5; thing 1 1 1 1 1 from 1 to 1; x", "clear;", "charge 1"};
        for (String text : texts) {
            WallHarbour x = rich();
            String portrait = Portrait.of(x);
            Texts.feed(x, text);
            Check.fails("wrong: " + text, ILLEGAL, x::harbour);
            Check.same("all stays behind " + text, Portrait.of(x), portrait);
            Check.same("the tape is used up by " + text, x.end(1), false);
            Check.same("the image stays behind " + text, x.back(), true);
            Check.same("the image stays behind " + text, x.count(7), 0);
        }
        String[] laws = {"charge", "charge 1; charge 2 if", "charge 7 if seen ship", "fog 5"};
        for (String text : laws) {
            WallHarbour x = rich();
            String portrait = Portrait.of(x);
            Texts.feed(x, text);
            Check.fails("wrong: " + text, ILLEGAL, x::law);
            Check.same("all stays behind " + text, Portrait.of(x), portrait);
            Check.same("the tape is used up by " + text, x.end(1), false);
        }
        WallHarbour full = Texts.with("fog 9", "", "", "", "", "", "", "", "", "");
        String portrait = Portrait.of(full);
        Texts.feed(full, "fog 5; hole 1 1");
        Check.fails("one too many", UNSUPPORTED, full::harbour);
        Check.same("all stays", Portrait.of(full), portrait);
        Check.same("the tape is used up", full.end(1), false);
    }
}
