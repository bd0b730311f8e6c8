import java.util.Arrays;
import java.util.NoSuchElementException;

/** A dark room on a pier: a harbour, where it is on the wall behind small holes, and what tracings of it tell. */
public final class WallHarbour {
    public static final int NONE = -1;

    private static final int NOTHING = -1000;
    private static final int MOST_BYTES = 400;
    private static final int MOST_TEXTS = 10;
    private static final int MOST_DAY = 999;
    private static final int MOST_MINUTE = 1439;
    private static final int MINUTES_A_DAY = 1440;
    private static final int MINUTES_AN_HOUR = 60;
    private static final int MOST_X = 99;
    private static final int MOST_Y = 300;
    private static final int MOST_HEIGHT = 99;
    private static final int MOST_WIDE = 20;
    private static final int MOST_AT = 999;
    private static final int MOST_PACE = 9;
    private static final int MOST_TIDE = 9;
    private static final int LEVELS = 12;
    private static final int MOST_THINGS = 10;
    private static final int MOST_SHIPS = 6;
    private static final int FIRST_SHIP = MOST_THINGS;
    private static final int BODIES = MOST_THINGS + MOST_SHIPS;
    private static final int MOST_HOLES = 3;
    private static final int MOST_TRACINGS = 40;
    private static final int MOST_TRACED = 999;
    private static final int TRACINGS_TOLD = 30;

    private final HarbourText harbourText = new HarbourText();
    private final LawText lawText = new LawText();
    private final Tape tape = new Tape();
    private final Sight sight = new Sight();
    private final State state = sight.state;
    private final State kept = new State();
    private final Finder finder = new Finder();
    private final Setting bestSetting = new Setting();
    private final Way bestWay = new Way();
    private final int[] facts = new int[Law.FACTS];
    private boolean isKept;
    private int wrongByte = NONE;

    public WallHarbour() {
    }

    public int feed(int a, int b, int c, int d, int e) {
        if (!tape.hasRoomFor(20)) {
            return NONE;
        }
        tape.add(a);
        tape.add(b);
        tape.add(c);
        tape.add(d);
        tape.add(e);
        return tape.length;
    }

    public boolean end(int n) {
        if (n < 0 || n > tape.length) {
            return false;
        }
        tape.length = n;
        return true;
    }

    public int harbour() throws IllegalArgumentException, UnsupportedOperationException {
        harbourText.read(tape, state);
        wrongByte = tape.useUp();
        if (wrongByte != NONE) {
            throw new IllegalArgumentException("the text is wrong");
        }
        if (state.texts >= MOST_TEXTS) {
            throw new UnsupportedOperationException("there are 10 texts");
        }
        state.copyFrom(harbourText.draft);
        state.texts++;
        return state.texts;
    }

    public int law() throws IllegalArgumentException {
        lawText.read(tape);
        wrongByte = tape.useUp();
        if (wrongByte != NONE) {
            throw new IllegalArgumentException("the text is wrong");
        }
        state.law.copyFrom(lawText.draft);
        return state.law.lines;
    }

    public int fault() {
        return wrongByte;
    }

    public int now(int day, int minute) throws IllegalArgumentException {
        needTime(day, minute);
        int before = MINUTES_A_DAY * state.day + state.minute;
        state.day = day;
        state.minute = minute;
        return before;
    }

    public int body(int body, int what) throws IndexOutOfBoundsException, NoSuchElementException {
        needBody(body);
        sight.goToNow();
        switch (what) {
            case 0: return sight.xOf(body);
            case 1: return state.bodies.y[body];
            case 2: return state.bodies.wide[body];
            case 3: return sight.lowOf(body);
            case 4: return sight.highOf(body);
            case 5: return state.bodies.from[body];
            case 6: return state.bodies.to[body];
            case 7: return sight.isThere(body) ? 1 : 0;
            default: throw new NoSuchElementException("no such what");
        }
    }

    public int spot(int body, int hole, boolean up, int what) throws IndexOutOfBoundsException, NoSuchElementException {
        needBody(body);
        needHole(hole);
        sight.goToNow();
        sight.lookThrough(hole);
        int below = state.bodies.y[body];
        int above = up ? sight.upward(below, sight.highOf(body)) : sight.across(sight.xOf(body), below);
        int common = commonDivisor(above, below);
        switch (what) {
            case 0: return roundDown(above, below);
            case 1: return common > 0 ? above / common : above;
            case 2: return common > 0 ? below / common : below;
            default: throw new NoSuchElementException("no such what");
        }
    }

    public boolean seen(int body, int hole) throws IndexOutOfBoundsException {
        needBody(body);
        needHole(hole);
        sight.goToNow();
        sight.lookThrough(hole);
        return sight.sees(body);
    }

    public int hider(int body, int hole) throws IndexOutOfBoundsException {
        needBody(body);
        needHole(hole);
        sight.goToNow();
        sight.lookThrough(hole);
        return sight.firstHiderOfTip(body);
    }

    public int charge(int body) throws IndexOutOfBoundsException {
        needBody(body);
        sight.goToNow();
        return chargeThen(body);
    }

    public int charges(int day) throws IllegalArgumentException {
        needTime(day, 0);
        int sum = 0;
        for (int minute = 0; minute < MINUTES_A_DAY; minute += MINUTES_AN_HOUR) {
            sight.goTo(day, minute);
            for (int body = 0; body < BODIES; body++) {
                sum += chargeThen(body);
            }
        }
        return sum;
    }

    public int tide(int day, int minute) throws IllegalArgumentException {
        needTime(day, minute);
        return state.tideAt(day, minute);
    }

    public int trace(int day, int minute, int hole, int u, int v)
            throws IndexOutOfBoundsException, IllegalArgumentException, UnsupportedOperationException {
        needHole(hole);
        needTime(day, minute);
        if (u < -MOST_TRACED || u > MOST_TRACED || v < -MOST_TRACED || v > MOST_TRACED) {
            throw new IllegalArgumentException("no such place on the wall");
        }
        needRoomForTracing();
        return state.tracings.add(day, minute, hole, u, v);
    }

    public int draw(int body, int hole) throws IndexOutOfBoundsException, UnsupportedOperationException {
        needBody(body);
        needHole(hole);
        sight.goToNow();
        sight.lookThrough(hole);
        if (!sight.sees(body)) {
            return NONE;
        }
        needRoomForTracing();
        return state.tracings.add(state.day, state.minute, hole, sight.tipU(body), sight.tipV(body));
    }

    public int undo() {
        if (state.tracings.count == 0) {
            return NONE;
        }
        state.tracings.count--;
        return state.tracings.count;
    }

    public int which(int tracing) throws IndexOutOfBoundsException {
        needTracing(tracing);
        return bodiesOf(tracing);
    }

    public int slips() {
        int slips = 0;
        for (int t = 0; t < state.tracings.count; t++) {
            if (bodiesOf(t) == 0) {
                slips++;
            }
        }
        return slips;
    }

    public int places(int tracings, int z, int e, int what) throws IllegalArgumentException, NoSuchElementException {
        int told = tracings & lowBits(Math.min(state.tracings.count, TRACINGS_TOLD));
        if (told == 0 || z < -MOST_HEIGHT || z > MOST_HEIGHT || e < 0 || e > TRACINGS_TOLD) {
            throw new IllegalArgumentException("no such tracings, height or number of exceptions");
        }
        if (what < 0 || what > 2) {
            throw new NoSuchElementException("no such what");
        }
        finder.findPlaces(sight, told, z, Integer.bitCount(told) - e);
        if (what == 0) {
            return finder.count;
        }
        if (finder.count == 0) {
            return what == 1 ? NOTHING : NONE;
        }
        return what == 1 ? finder.first : finder.second;
    }

    public int when(int thing, boolean last) throws IndexOutOfBoundsException {
        if (thing >= FIRST_SHIP) {
            throw new IndexOutOfBoundsException("no such thing");
        }
        needBody(thing);
        int found = NONE;
        for (int t = 0; t < state.tracings.count; t++) {
            int day = state.tracings.day[t];
            boolean further = found == NONE || (last ? day > found : day < found);
            if (further && sight.fits(t, thing)) {
                found = day;
            }
        }
        return found;
    }

    public int paces(int first, int second, int y, int what)
            throws IndexOutOfBoundsException, IllegalArgumentException, NoSuchElementException {
        needTracing(first);
        needTracing(second);
        Tracings all = state.tracings;
        if (all.hole[first] != all.hole[second] || all.day[first] != all.day[second]
                || all.minute[first] == all.minute[second] || !isAhead(y)) {
            throw new IllegalArgumentException("no pair of tracings, or no such place");
        }
        if (what < 0 || what > 2) {
            throw new NoSuchElementException("no such what");
        }
        finder.findPaces(sight, first, second, y);
        if (what == 0) {
            return finder.count;
        }
        if (finder.count == 0) {
            return NOTHING;
        }
        return what == 1 ? finder.first : finder.second;
    }

    public int mark(int x, int y, int hole, int v, boolean many)
            throws IndexOutOfBoundsException, IllegalArgumentException {
        needHole(hole);
        if (x < -MOST_X || x > MOST_X || !isAhead(y)) {
            throw new IllegalArgumentException("no such place");
        }
        sight.lookThrough(hole);
        finder.findTides(sight, y, v);
        if (many) {
            return finder.count;
        }
        return finder.count == 0 ? NOTHING : finder.first;
    }

    public int setting(int bodies, int never, int what) throws IndexOutOfBoundsException, NoSuchElementException {
        if (never != NONE) {
            needBody(never);
        }
        if (what < 0 || what > 3) {
            throw new NoSuchElementException("no such what");
        }
        bestSetting.find(sight, bodies, never);
        if (bestSetting.most == NONE) {
            return NOTHING;
        }
        switch (what) {
            case 0: return bestSetting.most;
            case 1: return bestSetting.p;
            case 2: return bestSetting.h;
            default: return bestSetting.deep;
        }
    }

    public int way(int minute) throws NoSuchElementException {
        if (minute < NONE || minute >= Way.MINUTES || state.minute + Way.MINUTES - 1 > MOST_MINUTE) {
            throw new NoSuchElementException("no such minute of a way");
        }
        bestWay.find(sight);
        return minute == NONE ? bestWay.least : bestWay.laneOf(minute);
    }

    public int met(int first, int second, int hole) throws IndexOutOfBoundsException, IllegalArgumentException {
        needBody(first);
        needBody(second);
        needHole(hole);
        if (first == second) {
            throw new IllegalArgumentException("both are one");
        }
        sight.lookThrough(hole);
        for (int minute = state.minute; minute <= MOST_MINUTE; minute++) {
            sight.goTo(state.day, minute);
            if (sight.isThere(first) && sight.isThere(second)
                    && (sight.hidesTip(first, second) || sight.hidesTip(second, first))) {
                return minute;
            }
        }
        return NONE;
    }

    public void image() {
        kept.copyFrom(state);
        isKept = true;
    }

    public boolean back() {
        if (!isKept) {
            return false;
        }
        state.copyFrom(kept);
        return true;
    }

    public int count(int what) {
        switch (what) {
            case 0: return state.bodies.things;
            case 1: return state.bodies.ships;
            case 2: return state.holes;
            case 3: return state.texts;
            case 4: return state.law.lines;
            case 5: return state.day;
            case 6: return state.minute;
            case 7: return state.tracings.count;
            case 8: return state.clouds;
            case 9: return state.fog;
            case 10: return state.moon;
            case 11: return state.deep;
            case 12: return state.left;
            case 13: return state.right;
            case 14: return state.top;
            case 15: return state.isLight(state.minute) ? 1 : 0;
            default: return NOTHING;
        }
    }

    private void needBody(int body) {
        if (!state.bodies.has(body)) {
            throw new IndexOutOfBoundsException("no such body");
        }
    }

    private void needHole(int hole) {
        if (hole < 0 || hole >= state.holes) {
            throw new IndexOutOfBoundsException("no such hole");
        }
    }

    private void needTracing(int tracing) {
        if (tracing < 0 || tracing >= state.tracings.count) {
            throw new IndexOutOfBoundsException("no such tracing");
        }
    }

    private void needTime(int day, int minute) {
        if (day < 0 || day > MOST_DAY || minute < 0 || minute > MOST_MINUTE) {
            throw new IllegalArgumentException("no such day or minute");
        }
    }

    private void needRoomForTracing() {
        if (state.tracings.count >= MOST_TRACINGS) {
            throw new UnsupportedOperationException("there are 40 tracings");
        }
    }

    /** The charge of a body at the time to which the sight went. */
    private int chargeThen(int body) {
        if (!sight.isThere(body)) {
            return 0;
        }
        facts[Law.FAR] = state.bodies.y[body];
        facts[Law.WIDE] = state.bodies.wide[body];
        facts[Law.TALL] = state.bodies.high[body] - state.bodies.low[body];
        facts[Law.HOUR] = sight.minute / MINUTES_AN_HOUR;
        facts[Law.DAY] = sight.day;
        facts[Law.BODY] = body;
        facts[Law.SEEN] = sight.isSeenBySome(body) ? 1 : 0;
        facts[Law.SHIP] = body >= FIRST_SHIP ? 1 : 0;
        return state.law.chargeBy(facts);
    }

    /** The bodies that a tracing fits and that were there, as bits. */
    private int bodiesOf(int tracing) {
        int bits = 0;
        for (int body = 0; body < BODIES; body++) {
            if (state.bodies.has(body) && sight.fits(tracing, body) && sight.isThere(body)) {
                bits |= 1 << body;
            }
        }
        return bits;
    }

    private static boolean isAhead(int y) {
        return y >= 1 && y <= MOST_Y;
    }

    private static int lowBits(int n) {
        return (1 << n) - 1;
    }

    private static int roundDown(int above, int below) {
        return below > 0 ? Math.floorDiv(above, below) : 0;
    }

    private static int commonDivisor(int above, int below) {
        int a = above < 0 ? -above : above;
        int b = below;
        for (int i = 0; i < 100 && b > 0; i++) {
            int rest = a % b;
            a = b;
            b = rest;
        }
        return a;
    }

    /** The bytes that were fed, and a reader that goes along them thing by thing and stops for good at a wrong one. */
    private static final class Tape {
        private final int[] bytes = new int[MOST_BYTES];
        int length;
        int at;
        boolean wrong;

        boolean hasRoomFor(int more) {
            return length + more <= MOST_BYTES;
        }

        void add(int number) {
            for (int shift = 24; shift >= 0 && length < MOST_BYTES; shift -= 8) {
                bytes[length] = number >> shift & 255;
                length++;
            }
        }

        void open() {
            wrong = false;
            at = 0;
            pass(0);
        }

        /** Where the first wrong byte of what was read is. */
        int useUp() {
            length = 0;
            return wrong ? at : NONE;
        }

        void failAt(int where) {
            at = where;
            wrong = true;
        }

        boolean isOver() {
            return at >= length;
        }

        void needEnd() {
            if (!isOver()) {
                wrong = true;
            }
        }

        boolean takeSign(char sign) {
            if (wrong || at < 0 || at >= length || at >= MOST_BYTES || bytes[at] != sign) {
                return false;
            }
            pass(1);
            return true;
        }

        void needSign(char sign) {
            if (!takeSign(sign)) {
                wrong = true;
            }
        }

        boolean takeWord(String word) {
            int end = at + word.length();
            if (wrong || runEnd('a', 'z') != end || end > MOST_BYTES) {
                return false;
            }
            for (int i = at; i < end; i++) {
                if (bytes[i] != word.charAt(i - at)) {
                    return false;
                }
            }
            pass(word.length());
            return true;
        }

        void needWord(String word) {
            if (!takeWord(word)) {
                wrong = true;
            }
        }

        boolean isAtNumber() {
            return !wrong && runEnd('0', '9') > at;
        }

        /** As takeNumber, but a "west" ahead puts the number below 0. */
        int takeSideways(int digits, int least, int most) {
            int sign = takeWord("west") ? -1 : 1;
            return takeNumber(sign, digits, least, most);
        }

        /** Sign times the number that stands next; the least one, where none stands that may. */
        int takeNumber(int sign, int digits, int least, int most) {
            int end = runEnd('0', '9');
            if (wrong || end <= at || end > at + digits || end > MOST_BYTES) {
                wrong = true;
                return least;
            }
            int value = 0;
            for (int i = at; i < end; i++) {
                value = 10 * value + sign * (bytes[i] - '0');
            }
            if (value < least || value > most) {
                wrong = true;
                return least;
            }
            pass(end - at);
            return value;
        }

        /** Where the signs from first to last that begin here end. */
        private int runEnd(char first, char last) {
            for (int i = at; i >= 0 && i < length && i < MOST_BYTES; i++) {
                if (bytes[i] < first || bytes[i] > last) {
                    return i;
                }
            }
            return length;
        }

        private void pass(int n) {
            at += n;
            while (at >= 0 && at < length && at < MOST_BYTES && bytes[at] == ' ') {
                at++;
            }
        }
    }

    /** What has a place in the harbour: things in the rows from 0 on, ships in those from 10 on. */
    private static final class Bodies {
        final int[] x = new int[BODIES];
        final int[] pace = new int[BODIES];
        final int[] y = new int[BODIES];
        final int[] wide = new int[BODIES];
        final int[] low = new int[BODIES];
        final int[] high = new int[BODIES];
        final int[] from = new int[BODIES];
        final int[] to = new int[BODIES];
        int things;
        int ships;

        boolean has(int body) {
            return body >= 0 && body < things || body >= FIRST_SHIP && body < FIRST_SHIP + ships;
        }

        void copyFrom(Bodies other) {
            System.arraycopy(other.x, 0, x, 0, BODIES);
            System.arraycopy(other.pace, 0, pace, 0, BODIES);
            System.arraycopy(other.y, 0, y, 0, BODIES);
            System.arraycopy(other.wide, 0, wide, 0, BODIES);
            System.arraycopy(other.low, 0, low, 0, BODIES);
            System.arraycopy(other.high, 0, high, 0, BODIES);
            System.arraycopy(other.from, 0, from, 0, BODIES);
            System.arraycopy(other.to, 0, to, 0, BODIES);
            things = other.things;
            ships = other.ships;
        }
    }

    /** A law as numbers that a stack works off: 0 and above are themselves, those below are signs. */
    private static final class Law {
        static final int MOST_LINES = 12;
        /** Seven levels of ( and not may each keep two waiting, and the innermost a sum and its parts. */
        private static final int MOST_STACKED = 40;

        static final int ADD = -1;
        static final int LESS = -2;
        static final int MORE = -3;
        static final int NOT = -4;
        static final int AND = -5;
        static final int OR = -6;
        private static final int FACT = -10;

        static final int FAR = 0;
        static final int WIDE = 1;
        static final int TALL = 2;
        static final int HOUR = 3;
        static final int DAY = 4;
        static final int BODY = 5;
        static final int SEEN = 6;
        static final int SHIP = 7;
        static final int FACTS = 8;

        private final int[] amounts = new int[MOST_LINES];
        private final int[] ends = new int[MOST_LINES];
        private final int[] code = new int[MOST_BYTES];
        private final int[] stack = new int[MOST_STACKED];
        int lines = NONE;
        private int size;

        void clear() {
            lines = 0;
            size = 0;
        }

        void put(int sign) {
            if (size < MOST_BYTES) {
                code[size] = sign;
                size++;
            }
        }

        void putFact(int fact) {
            put(FACT - fact);
        }

        void endLine(int amount) {
            if (lines >= 0 && lines < MOST_LINES) {
                amounts[lines] = amount;
                ends[lines] = size;
                lines++;
            }
        }

        int chargeBy(int[] facts) {
            int sum = 0;
            int begin = 0;
            for (int line = 0; line < lines; line++) {
                if (holds(begin, ends[line], facts)) {
                    sum += amounts[line];
                }
                begin = ends[line];
            }
            return sum;
        }

        private boolean holds(int begin, int end, int[] facts) {
            int high = 0;
            for (int i = begin; i < end && i < MOST_BYTES; i++) {
                int sign = code[i];
                int fact = FACT - sign;
                if (sign >= 0) {
                    high = push(high, sign);
                } else if (fact >= 0 && fact < FACTS && fact < facts.length) {
                    high = push(high, facts[fact]);
                } else {
                    high = workOff(sign, high);
                }
            }
            return high == 0 || stack[0] != 0;
        }

        private int push(int high, int value) {
            if (high < 0 || high >= MOST_STACKED) {
                return high;
            }
            stack[high] = value;
            return high + 1;
        }

        private int workOff(int sign, int high) {
            if (high < 1 || high > MOST_STACKED) {
                return high;
            }
            int right = stack[high - 1];
            if (sign == NOT) {
                stack[high - 1] = right == 0 ? 1 : 0;
                return high;
            }
            if (high < 2) {
                return high;
            }
            stack[high - 2] = joined(sign, stack[high - 2], right);
            return high - 1;
        }

        private static int joined(int sign, int left, int right) {
            switch (sign) {
                case ADD: return left + right;
                case LESS: return left < right ? 1 : 0;
                case MORE: return left > right ? 1 : 0;
                case AND: return left & right;
                default: return left | right;
            }
        }

        void copyFrom(Law other) {
            System.arraycopy(other.amounts, 0, amounts, 0, MOST_LINES);
            System.arraycopy(other.ends, 0, ends, 0, MOST_LINES);
            System.arraycopy(other.code, 0, code, 0, MOST_BYTES);
            lines = other.lines;
            size = other.size;
        }
    }

    /** The tracings of the boy, the latest last. */
    private static final class Tracings {
        final int[] day = new int[MOST_TRACINGS];
        final int[] minute = new int[MOST_TRACINGS];
        final int[] hole = new int[MOST_TRACINGS];
        final int[] u = new int[MOST_TRACINGS];
        final int[] v = new int[MOST_TRACINGS];
        int count;

        int add(int day, int minute, int hole, int u, int v) {
            if (count >= MOST_TRACINGS) {
                return NONE;
            }
            this.day[count] = day;
            this.minute[count] = minute;
            this.hole[count] = hole;
            this.u[count] = u;
            this.v[count] = v;
            count++;
            return count - 1;
        }

        void copyFrom(Tracings other) {
            System.arraycopy(other.day, 0, day, 0, MOST_TRACINGS);
            System.arraycopy(other.minute, 0, minute, 0, MOST_TRACINGS);
            System.arraycopy(other.hole, 0, hole, 0, MOST_TRACINGS);
            System.arraycopy(other.u, 0, u, 0, MOST_TRACINGS);
            System.arraycopy(other.v, 0, v, 0, MOST_TRACINGS);
            count = other.count;
        }
    }

    /** All that an image keeps. */
    private static final class State {
        final Bodies bodies = new Bodies();
        final Law law = new Law();
        final Tracings tracings = new Tracings();
        final int[] holeX = new int[MOST_HOLES];
        final int[] holeZ = new int[MOST_HOLES];
        final int[] tides = new int[LEVELS];
        int holes;
        int deep = 10;
        int left = -20;
        int right = 20;
        int top = 20;
        int clouds;
        int fog = MOST_Y;
        int moon;
        int texts;
        int day;
        int minute;

        boolean isLight(int minute) {
            int hour = minute / MINUTES_AN_HOUR;
            return hour >= 6 && hour <= 17 && (clouds >> hour & 1) == 0;
        }

        int tideAt(int day, int minute) {
            return tides[Math.floorMod(minute / MINUTES_AN_HOUR + moon * day, LEVELS)];
        }

        void copyFrom(State other) {
            bodies.copyFrom(other.bodies);
            law.copyFrom(other.law);
            tracings.copyFrom(other.tracings);
            System.arraycopy(other.holeX, 0, holeX, 0, MOST_HOLES);
            System.arraycopy(other.holeZ, 0, holeZ, 0, MOST_HOLES);
            System.arraycopy(other.tides, 0, tides, 0, LEVELS);
            holes = other.holes;
            deep = other.deep;
            left = other.left;
            right = other.right;
            top = other.top;
            clouds = other.clouds;
            fog = other.fog;
            moon = other.moon;
            texts = other.texts;
            day = other.day;
            minute = other.minute;
        }
    }

    /** Reads a text of the harbour into a draft, which is left where it is if the text turns out wrong. */
    private static final class HarbourText {
        private static final int MOST_LINES = 14;

        final State draft = new State();

        void read(Tape tape, State before) {
            draft.copyFrom(before);
            tape.open();
            if (tape.isOver()) {
                return;
            }
            for (int line = 0; line < MOST_LINES; line++) {
                readLine(tape);
                if (!tape.takeSign(';')) {
                    tape.needEnd();
                    return;
                }
            }
            tape.wrong = true;
        }

        private void readLine(Tape tape) {
            int begin = tape.at;
            if (tape.takeWord("thing")) {
                readThing(tape, begin);
            } else if (tape.takeWord("ship")) {
                readShip(tape, begin);
            } else if (tape.takeWord("hole")) {
                readHole(tape, begin);
            } else if (tape.takeWord("wall")) {
                readWall(tape);
            } else if (tape.takeWord("cloud")) {
                readClouds(tape);
            } else if (tape.takeWord("clear")) {
                draft.clouds = 0;
            } else if (tape.takeWord("fog")) {
                draft.fog = tape.takeNumber(1, 3, 1, MOST_Y);
            } else if (tape.takeWord("moon")) {
                draft.moon = tape.takeNumber(1, 3, 0, LEVELS - 1);
            } else if (tape.takeWord("tide")) {
                readTide(tape);
            } else {
                tape.wrong = true;
            }
        }

        private void readThing(Tape tape, int begin) {
            Bodies bodies = draft.bodies;
            int row = bodies.things;
            if (row < 0 || row >= MOST_THINGS) {
                tape.failAt(begin);
                return;
            }
            bodies.x[row] = tape.takeSideways(3, -MOST_X, MOST_X);
            readShape(tape, row);
            tape.needWord("from");
            bodies.from[row] = tape.takeNumber(1, 3, 0, MOST_DAY);
            tape.needWord("to");
            bodies.to[row] = tape.takeNumber(1, 3, bodies.from[row], MOST_DAY);
            bodies.things++;
        }

        private void readShip(Tape tape, int begin) {
            Bodies bodies = draft.bodies;
            int row = FIRST_SHIP + bodies.ships;
            if (row < FIRST_SHIP || row >= BODIES) {
                tape.failAt(begin);
                return;
            }
            bodies.x[row] = tape.takeSideways(3, -MOST_AT, MOST_AT);
            readShape(tape, row);
            tape.needWord("pace");
            bodies.pace[row] = tape.takeSideways(3, -MOST_PACE, MOST_PACE);
            tape.needWord("from");
            bodies.from[row] = tape.takeNumber(1, 4, 0, MOST_MINUTE);
            tape.needWord("to");
            bodies.to[row] = tape.takeNumber(1, 4, bodies.from[row], MOST_MINUTE);
            bodies.ships++;
        }

        private void readShape(Tape tape, int row) {
            Bodies bodies = draft.bodies;
            bodies.y[row] = tape.takeNumber(1, 3, 1, MOST_Y);
            bodies.wide[row] = tape.takeNumber(1, 3, 0, MOST_WIDE);
            bodies.low[row] = tape.takeNumber(1, 3, 0, MOST_HEIGHT);
            bodies.high[row] = tape.takeNumber(1, 3, bodies.low[row], MOST_HEIGHT);
        }

        private void readHole(Tape tape, int begin) {
            int row = draft.holes;
            if (row < 0 || row >= MOST_HOLES) {
                tape.failAt(begin);
                return;
            }
            draft.holeX[row] = tape.takeSideways(3, -50, 50);
            draft.holeZ[row] = tape.takeNumber(1, 3, 1, 50);
            draft.holes++;
        }

        private void readWall(Tape tape) {
            draft.deep = tape.takeNumber(1, 3, 1, 50);
            tape.needWord("from");
            draft.left = tape.takeSideways(3, -MOST_X, MOST_X);
            tape.needWord("to");
            draft.right = tape.takeSideways(3, draft.left, MOST_X);
            tape.needWord("top");
            draft.top = tape.takeNumber(1, 3, 0, MOST_HEIGHT);
        }

        private void readClouds(Tape tape) {
            int clouds = 1 << tape.takeNumber(1, 3, 0, 23);
            for (int i = 0; i < MOST_BYTES && tape.isAtNumber(); i++) {
                clouds |= 1 << tape.takeNumber(1, 3, 0, 23);
            }
            draft.clouds = clouds;
        }

        private void readTide(Tape tape) {
            int level = tape.takeNumber(1, 3, 0, LEVELS - 1);
            int sign = tape.takeWord("low") ? -1 : 1;
            int height = tape.takeNumber(1, 3, 0, MOST_TIDE);
            if (level >= 0 && level < LEVELS) {
                draft.tides[level] = sign * height;
            }
        }
    }

    /** Reads a text of a law into a draft of one. */
    private static final class LawText {
        private static final int MOST_DEEP = 6;

        final Law draft = new Law();

        void read(Tape tape) {
            draft.clear();
            tape.open();
            if (tape.isOver()) {
                return;
            }
            for (int line = 0; line < Law.MOST_LINES; line++) {
                tape.needWord("charge");
                int amount = tape.takeNumber(1, 3, 0, 999);
                if (tape.takeWord("if")) {
                    readAny(tape, 0);
                }
                draft.endLine(amount);
                if (!tape.takeSign(';')) {
                    tape.needEnd();
                    return;
                }
            }
            tape.wrong = true;
        }

        private void readAny(Tape tape, int deep) {
            for (int i = 0; i < MOST_BYTES && (i == 0 || tape.takeWord("or")); i++) {
                readAtom(tape, deep);
                for (int j = 0; j < MOST_BYTES && tape.takeWord("and"); j++) {
                    readAtom(tape, deep);
                    draft.put(Law.AND);
                }
                if (i > 0) {
                    draft.put(Law.OR);
                }
            }
        }

        /** A ( or a not that would be too deep is left to readPart, which knows neither and stops there. */
        private void readAtom(Tape tape, int deep) {
            if (deep < MOST_DEEP && tape.takeWord("not")) {
                readAtom(tape, deep + 1);
                draft.put(Law.NOT);
            } else if (deep < MOST_DEEP && tape.takeSign('(')) {
                readAny(tape, deep + 1);
                tape.needSign(')');
            } else if (tape.takeWord("seen")) {
                draft.putFact(Law.SEEN);
            } else if (tape.takeWord("ship")) {
                draft.putFact(Law.SHIP);
            } else {
                readSum(tape);
                int sign = tape.takeSign('<') ? Law.LESS : Law.MORE;
                if (sign == Law.MORE) {
                    tape.needSign('>');
                }
                readSum(tape);
                draft.put(sign);
            }
        }

        private void readSum(Tape tape) {
            readPart(tape);
            for (int i = 0; i < MOST_BYTES && tape.takeSign('+'); i++) {
                readPart(tape);
                draft.put(Law.ADD);
            }
        }

        private void readPart(Tape tape) {
            if (tape.takeWord("far")) {
                draft.putFact(Law.FAR);
            } else if (tape.takeWord("wide")) {
                draft.putFact(Law.WIDE);
            } else if (tape.takeWord("tall")) {
                draft.putFact(Law.TALL);
            } else if (tape.takeWord("hour")) {
                draft.putFact(Law.HOUR);
            } else if (tape.takeWord("day")) {
                draft.putFact(Law.DAY);
            } else if (tape.takeWord("body")) {
                draft.putFact(Law.BODY);
            } else {
                draft.put(tape.takeNumber(1, 3, 0, 999));
            }
        }
    }

    /** Looks at the harbour through one hole, on a wall so far behind it, at one time. */
    private static final class Sight {
        final State state = new State();
        private final Bodies bodies = state.bodies;
        int day;
        int minute;
        private int tide;
        private int p;
        private int h;
        private int deep;

        void goToNow() {
            goTo(state.day, state.minute);
        }

        void goTo(int day, int minute) {
            this.day = day;
            this.minute = minute;
            tide = state.tideAt(day, minute);
        }

        void lookThrough(int hole) {
            if (hole >= 0 && hole < MOST_HOLES) {
                lookThroughNew(state.holeX[hole], state.holeZ[hole], state.deep);
            }
        }

        void lookThroughNew(int p, int h, int deep) {
            this.p = p;
            this.h = h;
            this.deep = deep;
        }

        int xOf(int body) {
            return bodies.x[body] + bodies.pace[body] * minute;
        }

        int lowOf(int body) {
            return bodies.low[body] + (body >= FIRST_SHIP ? tide : 0);
        }

        int highOf(int body) {
            return bodies.high[body] + (body >= FIRST_SHIP ? tide : 0);
        }

        boolean isThere(int body) {
            int time = body >= FIRST_SHIP ? minute : day;
            return bodies.has(body) && bodies.from[body] <= time && time <= bodies.to[body];
        }

        /** What stands above Y in the fraction U of a point. */
        int across(int x, int y) {
            return p * y - (x - p) * deep;
        }

        /** What stands above Y in the fraction V of a point. */
        int upward(int y, int z) {
            return h * y - (z - h) * deep;
        }

        int tipU(int body) {
            return roundDown(across(xOf(body), bodies.y[body]), bodies.y[body]);
        }

        int tipV(int body) {
            return roundDown(upward(bodies.y[body], highOf(body)), bodies.y[body]);
        }

        private boolean isOnWall(int x, int y, int z) {
            int across = across(x, y);
            int upward = upward(y, z);
            return across >= state.left * y && across <= state.right * y && upward >= 0 && upward <= state.top * y;
        }

        boolean isTipOnWall(int body) {
            return isOnWall(xOf(body), bodies.y[body], highOf(body));
        }

        /** Whether anything so far ahead can be seen at all. */
        boolean isClear(int y) {
            return state.isLight(minute) && y <= state.fog;
        }

        /** Where the line is at the body's Y is a fraction with y below: all is taken y times. */
        private boolean hides(int body, int x, int y, int z) {
            int near = bodies.y[body];
            if (near >= y) {
                return false;
            }
            int lineX = p * y + (x - p) * near;
            int bodyX = xOf(body);
            int wide = bodies.wide[body];
            if (lineX < (bodyX - wide) * y || lineX > (bodyX + wide) * y) {
                return false;
            }
            int lineZ = h * y + (z - h) * near;
            return lineZ >= lowOf(body) * y && lineZ <= highOf(body) * y;
        }

        boolean hidesTip(int body, int hidden) {
            return hides(body, xOf(hidden), bodies.y[hidden], highOf(hidden));
        }

        private int firstHider(int x, int y, int z) {
            for (int body = 0; body < BODIES; body++) {
                if (isThere(body) && hides(body, x, y, z)) {
                    return body;
                }
            }
            return NONE;
        }

        int firstHiderOfTip(int body) {
            return firstHider(xOf(body), bodies.y[body], highOf(body));
        }

        private boolean seesPoint(int x, int y, int z) {
            return isClear(y) && isOnWall(x, y, z) && firstHider(x, y, z) == NONE;
        }

        boolean sees(int body) {
            return isThere(body) && seesPoint(xOf(body), bodies.y[body], highOf(body));
        }

        boolean isPointSeenBySome(int x, int y, int z) {
            for (int hole = 0; hole < state.holes; hole++) {
                lookThrough(hole);
                if (seesPoint(x, y, z)) {
                    return true;
                }
            }
            return false;
        }

        boolean isSeenBySome(int body) {
            return isThere(body) && isPointSeenBySome(xOf(body), bodies.y[body], highOf(body));
        }

        /** Goes to when the tracing was made, and stays there. */
        boolean fits(int tracing, int body) {
            Tracings all = state.tracings;
            goTo(all.day[tracing], all.minute[tracing]);
            lookThrough(all.hole[tracing]);
            return tipU(body) == all.u[tracing] && tipV(body) == all.v[tracing];
        }

        /** The least whole X whose U, rounded down, is u at this Y. */
        int leastX(int u, int y) {
            return p + roundDown((p - u - 1) * y, deep) + 1;
        }

        /** The most whole X whose U, rounded down, is u at this Y. */
        int mostX(int u, int y) {
            return p + roundDown((p - u) * y, deep);
        }
    }

    /** Finds what tracings tell: how many answers there are, and the first of them (of two numbers, maybe). */
    private static final class Finder {
        private final int[] steps = new int[2 * MOST_X + 2];
        int count;
        int first;
        int second;

        void findPlaces(Sight sight, int told, int z, int need) {
            count = 0;
            for (int y = 1; y <= MOST_Y; y++) {
                if (markRanges(sight, told, y, z) >= need) {
                    keepPlaces(y, need);
                }
            }
        }

        /** Of each tracing that a point of this Y and Z can be, puts where its range of X begins and ends. */
        private int markRanges(Sight sight, int told, int y, int z) {
            Tracings all = sight.state.tracings;
            Arrays.fill(steps, 0);
            int ranges = 0;
            for (int t = 0; t < all.count && t < TRACINGS_TOLD; t++) {
                sight.lookThrough(all.hole[t]);
                if ((told >> t & 1) == 0 || roundDown(sight.upward(y, z), y) != all.v[t]) {
                    continue;
                }
                int from = Math.max(sight.leastX(all.u[t], y), -MOST_X);
                int to = Math.min(sight.mostX(all.u[t], y), MOST_X);
                if (from <= to) {
                    steps[from + MOST_X]++;
                    steps[to + MOST_X + 1]--;
                    ranges++;
                }
            }
            return ranges;
        }

        private void keepPlaces(int y, int need) {
            int ranges = 0;
            for (int x = -MOST_X; x <= MOST_X; x++) {
                ranges += steps[x + MOST_X];
                if (ranges >= need) {
                    keep(x, y);
                }
            }
        }

        void findPaces(Sight sight, int one, int other, int y) {
            Tracings all = sight.state.tracings;
            count = 0;
            sight.lookThrough(all.hole[one]);
            int oneLeast = sight.leastX(all.u[one], y);
            int oneMost = sight.mostX(all.u[one], y);
            int otherLeast = sight.leastX(all.u[other], y);
            int otherMost = sight.mostX(all.u[other], y);
            for (int pace = -MOST_PACE; pace <= MOST_PACE; pace++) {
                int oneGone = pace * all.minute[one];
                int otherGone = pace * all.minute[other];
                int from = Math.max(Math.max(oneLeast - oneGone, otherLeast - otherGone), -MOST_AT);
                int to = Math.min(Math.min(oneMost - oneGone, otherMost - otherGone), MOST_AT);
                if (from <= to) {
                    keep(pace, from);
                }
            }
        }

        void findTides(Sight sight, int y, int v) {
            count = 0;
            for (int tide = -MOST_TIDE; tide <= MOST_TIDE; tide++) {
                if (roundDown(sight.upward(y, tide), y) == v) {
                    keep(tide, 0);
                }
            }
        }

        private void keep(int one, int two) {
            if (count == 0) {
                first = one;
                second = two;
            }
            count++;
        }
    }

    /** Finds the hole and the wall by which the most are seen now. */
    private static final class Setting {
        int most;
        int p;
        int h;
        int deep;

        void find(Sight sight, int wanted, int never) {
            most = NONE;
            sight.goToNow();
            int neverBit = never == NONE ? 0 : 1 << never;
            int clear = clearOf(sight, wanted | neverBit);
            for (int p = -10; p <= 10; p++) {
                for (int h = 1; h <= 20; h++) {
                    sight.lookThroughNew(p, h, 1);
                    int open = openOf(sight, clear);
                    for (int deep = 1; deep <= 20; deep++) {
                        sight.lookThroughNew(p, h, deep);
                        int seen = onWallOf(sight, open);
                        if ((seen & neverBit) == 0 && Integer.bitCount(seen & wanted) > most) {
                            keep(Integer.bitCount(seen & wanted), p, h, deep);
                        }
                    }
                }
            }
        }

        private void keep(int most, int p, int h, int deep) {
            this.most = most;
            this.p = p;
            this.h = h;
            this.deep = deep;
        }

        private int clearOf(Sight sight, int bodies) {
            int clear = 0;
            for (int body = 0; body < BODIES; body++) {
                if ((bodies >> body & 1) == 1 && sight.isThere(body) && sight.isClear(sight.state.bodies.y[body])) {
                    clear |= 1 << body;
                }
            }
            return clear;
        }

        /** Asked once a hole: what hides a body does not hang on how deep the room is. */
        private int openOf(Sight sight, int bodies) {
            int open = 0;
            for (int body = 0; body < BODIES; body++) {
                if ((bodies >> body & 1) == 1 && sight.firstHiderOfTip(body) == NONE) {
                    open |= 1 << body;
                }
            }
            return open;
        }

        private int onWallOf(Sight sight, int bodies) {
            int onWall = 0;
            for (int body = 0; body < BODIES; body++) {
                if ((bodies >> body & 1) == 1 && sight.isTipOnWall(body)) {
                    onWall |= 1 << body;
                }
            }
            return onWall;
        }
    }

    /** Finds the way of a boat through the harbour that is seen the least. */
    private static final class Way {
        static final int MINUTES = 13;
        private static final int LANES = 6;

        /** By minute and lane: in how many minutes the boat is seen, from there to the end, at the least. */
        private final int[] rest = new int[MINUTES * LANES];
        private final int[] lanes = new int[MINUTES];
        int least;

        void find(Sight sight) {
            State state = sight.state;
            for (int step = MINUTES - 1; step >= 0; step--) {
                sight.goTo(state.day, state.minute + step);
                for (int lane = 0; lane < LANES; lane++) {
                    int seen = sight.isPointSeenBySome(10 * step - 60, 20 * (lane + 1), 0) ? 1 : 0;
                    rest[step * LANES + lane] = seen + restOf(step + 1, laneBeside(step + 1, lane));
                }
            }
            lanes[0] = bestLane(0, 0, LANES - 1);
            for (int step = 1; step < MINUTES; step++) {
                lanes[step] = laneBeside(step, lanes[step - 1]);
            }
            least = restOf(0, lanes[0]);
        }

        private int laneBeside(int step, int lane) {
            return bestLane(step, Math.max(lane - 1, 0), Math.min(lane + 1, LANES - 1));
        }

        /** Of some lanes at a minute the first by which the boat is seen the least from there on. */
        private int bestLane(int step, int from, int to) {
            int best = from;
            for (int lane = from + 1; lane <= to; lane++) {
                if (restOf(step, lane) < restOf(step, best)) {
                    best = lane;
                }
            }
            return best;
        }

        private int restOf(int step, int lane) {
            boolean isOnWay = step >= 0 && step < MINUTES && lane >= 0 && lane < LANES;
            return isOnWay ? rest[step * LANES + lane] : 0;
        }

        int laneOf(int minute) {
            return minute >= 0 && minute < MINUTES ? lanes[minute] : NONE;
        }
    }
}
