import java.util.ArrayList;
import java.util.List;
import java.util.NoSuchElementException;
import java.util.function.Predicate;
import java.util.function.ToIntFunction;

/** The document's words once more, as plainly as can be and by other ways than the class: all is tried out. */
final class Model {
    static final int NONE = -1;
    static final int NOTHING = -1000;

    /** A whole fraction with what stands below above 0. */
    record Part(long above, long below) implements Comparable<Part> {
        static Part of(long above, long below) {
            long a = Math.abs(above);
            long b = Math.abs(below);
            while (b != 0) {
                long rest = a % b;
                a = b;
                b = rest;
            }
            long sign = below < 0 ? -1 : 1;
            return new Part(sign * above / a, sign * below / a);
        }

        static Part whole(long n) {
            return new Part(n, 1);
        }

        Part plus(Part other) {
            return of(above * other.below + other.above * below, below * other.below);
        }

        Part times(Part other) {
            return of(above * other.above, below * other.below);
        }

        int down() {
            return (int) Math.floorDiv(above, below);
        }

        boolean within(long least, long most) {
            return compareTo(whole(least)) >= 0 && compareTo(whole(most)) <= 0;
        }

        @Override
        public int compareTo(Part other) {
            return Long.compare(above * other.below, other.above * below);
        }
    }

    record Body(int number, int x, int pace, int y, int wide, int low, int high, int from, int to) {
        boolean ship() {
            return number >= 10;
        }
    }

    record Hole(int p, int h) {
    }

    record Tracing(int day, int minute, int hole, int u, int v) {
    }

    record Rule(int amount, Predicate<Fact> condition) {
    }

    record Fact(Body body, int day, int minute, boolean seen) {
    }

    static final class World {
        List<Body> things = new ArrayList<>();
        List<Body> ships = new ArrayList<>();
        List<Hole> holes = new ArrayList<>();
        int deep = 10;
        int left = -20;
        int right = 20;
        int top = 20;
        int clouds;
        int fog = 300;
        int moon;
        int[] tides = new int[12];
        int texts;
        List<Rule> rules;
        int day;
        int minute;
        List<Tracing> tracings = new ArrayList<>();

        World copy() {
            World copy = new World();
            copy.things = new ArrayList<>(things);
            copy.ships = new ArrayList<>(ships);
            copy.holes = new ArrayList<>(holes);
            copy.deep = deep;
            copy.left = left;
            copy.right = right;
            copy.top = top;
            copy.clouds = clouds;
            copy.fog = fog;
            copy.moon = moon;
            copy.tides = tides.clone();
            copy.texts = texts;
            copy.rules = rules;
            copy.day = day;
            copy.minute = minute;
            copy.tracings = new ArrayList<>(tracings);
            return copy;
        }

        List<Body> bodies() {
            List<Body> bodies = new ArrayList<>(things);
            bodies.addAll(ships);
            return bodies;
        }

        Body body(int number) {
            for (Body body : bodies()) {
                if (body.number() == number) {
                    return body;
                }
            }
            throw new IndexOutOfBoundsException();
        }

        Hole hole(int number) {
            if (number < 0 || number >= holes.size()) {
                throw new IndexOutOfBoundsException();
            }
            return holes.get(number);
        }

        boolean light(int minute) {
            int hour = minute / 60;
            return hour > 5 && hour < 18 && (clouds & 1 << hour) == 0;
        }

        int tide(int day, int minute) {
            return tides[(minute / 60 + moon * day) % 12];
        }

        boolean there(Body body, int day, int minute) {
            int time = body.ship() ? minute : day;
            return time >= body.from() && time <= body.to();
        }

        int x(Body body, int minute) {
            return body.ship() ? body.x() + body.pace() * minute : body.x();
        }

        int lift(Body body, int day, int minute) {
            return body.ship() ? tide(day, minute) : 0;
        }

        int tipZ(Body body, int day, int minute) {
            return body.high() + lift(body, day, minute);
        }

        Part u(Hole hole, int deep, int x, int y) {
            return Part.whole(hole.p()).plus(Part.of(-(x - hole.p()) * deep, y));
        }

        Part v(Hole hole, int deep, int z, int y) {
            return Part.whole(hole.h()).plus(Part.of(-(z - hole.h()) * deep, y));
        }

        boolean hides(Body body, Hole hole, int x, int y, int z, int day, int minute) {
            if (body.y() >= y) {
                return false;
            }
            Part share = Part.of(body.y(), y);
            Part lineX = Part.whole(hole.p()).plus(share.times(Part.whole(x - hole.p())));
            Part lineZ = Part.whole(hole.h()).plus(share.times(Part.whole(z - hole.h())));
            int lift = lift(body, day, minute);
            int middle = x(body, minute);
            return lineX.within(middle - body.wide(), middle + body.wide())
                    && lineZ.within(body.low() + lift, body.high() + lift);
        }

        int hider(Hole hole, int x, int y, int z, int day, int minute) {
            for (Body body : bodies()) {
                if (there(body, day, minute) && hides(body, hole, x, y, z, day, minute)) {
                    return body.number();
                }
            }
            return NONE;
        }

        boolean sees(Hole hole, int deep, int x, int y, int z, int day, int minute) {
            return light(minute) && y <= fog && u(hole, deep, x, y).within(left, right)
                    && v(hole, deep, z, y).within(0, top) && hider(hole, x, y, z, day, minute) == NONE;
        }

        boolean seen(Body body, Hole hole, int deep, int day, int minute) {
            return there(body, day, minute)
                    && sees(hole, deep, x(body, minute), body.y(), tipZ(body, day, minute), day, minute);
        }

        boolean seenBySome(Body body, int day, int minute) {
            boolean seen = false;
            for (Hole hole : holes) {
                seen |= seen(body, hole, deep, day, minute);
            }
            return seen;
        }

        int charge(Body body, int day, int minute) {
            int sum = 0;
            if (rules != null && there(body, day, minute)) {
                Fact fact = new Fact(body, day, minute, seenBySome(body, day, minute));
                for (Rule rule : rules) {
                    sum += rule.condition().test(fact) ? rule.amount() : 0;
                }
            }
            return sum;
        }

        boolean fits(Tracing tracing, Body body) {
            Hole hole = holes.get(tracing.hole());
            int z = tipZ(body, tracing.day(), tracing.minute());
            return u(hole, deep, x(body, tracing.minute()), body.y()).down() == tracing.u()
                    && v(hole, deep, z, body.y()).down() == tracing.v();
        }

        int which(Tracing tracing) {
            int bits = 0;
            for (Body body : bodies()) {
                if (fits(tracing, body) && there(body, tracing.day(), tracing.minute())) {
                    bits += 1 << body.number();
                }
            }
            return bits;
        }
    }

    World world = new World();
    private World image;
    private StringBuilder tape = new StringBuilder();
    private int fault = NONE;

    int feed(int... numbers) {
        if (tape.length() > 380) {
            return NONE;
        }
        for (int number : numbers) {
            tape.append((char) (number >>> 24)).append((char) (number >>> 16 & 255));
            tape.append((char) (number >>> 8 & 255)).append((char) (number & 255));
        }
        return tape.length();
    }

    boolean end(int n) {
        if (n < 0 || n > tape.length()) {
            return false;
        }
        tape.setLength(n);
        return true;
    }

    private String useUp() {
        String text = tape.toString();
        tape.setLength(0);
        fault = NONE;
        return text;
    }

    int harbour() {
        ModelText text = new ModelText(useUp());
        World draft = world.copy();
        try {
            text.readHarbour(draft);
        } catch (ModelText.Wrong wrong) {
            fault = wrong.at;
            throw new IllegalArgumentException();
        }
        if (world.texts == 10) {
            throw new UnsupportedOperationException();
        }
        world = draft;
        return ++world.texts;
    }

    int law() {
        ModelText text = new ModelText(useUp());
        try {
            world.rules = text.readLaw();
        } catch (ModelText.Wrong wrong) {
            fault = wrong.at;
            throw new IllegalArgumentException();
        }
        return world.rules.size();
    }

    int fault() {
        return fault;
    }

    private static void allow(boolean right) {
        if (!right) {
            throw new IllegalArgumentException();
        }
    }

    private static int choose(int what, int... answers) {
        if (what < 0 || what >= answers.length) {
            throw new NoSuchElementException();
        }
        return answers[what];
    }

    private static boolean isTime(int day, int minute) {
        return day >= 0 && day < 1000 && minute >= 0 && minute < 1440;
    }

    int now(int day, int minute) {
        allow(isTime(day, minute));
        int before = 1440 * world.day + world.minute;
        world.day = day;
        world.minute = minute;
        return before;
    }

    int body(int number, int what) {
        Body body = world.body(number);
        int lift = world.lift(body, world.day, world.minute);
        return choose(what, world.x(body, world.minute), body.y(), body.wide(), body.low() + lift, body.high() + lift,
                body.from(), body.to(), world.there(body, world.day, world.minute) ? 1 : 0);
    }

    int spot(int number, int hole, boolean up, int what) {
        Body body = world.body(number);
        Hole by = world.hole(hole);
        Part part = up ? world.v(by, world.deep, world.tipZ(body, world.day, world.minute), body.y())
                : world.u(by, world.deep, world.x(body, world.minute), body.y());
        return choose(what, part.down(), (int) part.above(), (int) part.below());
    }

    boolean seen(int number, int hole) {
        Body body = world.body(number);
        return world.seen(body, world.hole(hole), world.deep, world.day, world.minute);
    }

    int hider(int number, int hole) {
        Body body = world.body(number);
        int z = world.tipZ(body, world.day, world.minute);
        return world.hider(world.hole(hole), world.x(body, world.minute), body.y(), z, world.day, world.minute);
    }

    int charge(int number) {
        return world.charge(world.body(number), world.day, world.minute);
    }

    int charges(int day) {
        allow(isTime(day, 0));
        int sum = 0;
        for (int hour = 0; hour < 24; hour++) {
            for (Body body : world.bodies()) {
                sum += world.charge(body, day, 60 * hour);
            }
        }
        return sum;
    }

    int tide(int day, int minute) {
        allow(isTime(day, minute));
        return world.tide(day, minute);
    }

    int trace(int day, int minute, int hole, int u, int v) {
        world.hole(hole);
        allow(isTime(day, minute) && Math.abs((long) u) < 1000 && Math.abs((long) v) < 1000);
        return keep(new Tracing(day, minute, hole, u, v));
    }

    private int keep(Tracing tracing) {
        if (world.tracings.size() == 40) {
            throw new UnsupportedOperationException();
        }
        world.tracings.add(tracing);
        return world.tracings.size() - 1;
    }

    int draw(int number, int hole) {
        return seen(number, hole)
                ? keep(new Tracing(world.day, world.minute, hole, spot(number, hole, false, 0), spot(number, hole, true, 0)))
                : NONE;
    }

    int undo() {
        int last = world.tracings.size() - 1;
        if (last >= 0) {
            world.tracings.remove(last);
        }
        return last;
    }

    private Tracing tracing(int number) {
        if (number < 0 || number >= world.tracings.size()) {
            throw new IndexOutOfBoundsException();
        }
        return world.tracings.get(number);
    }

    int which(int number) {
        return world.which(tracing(number));
    }

    int slips() {
        int slips = 0;
        for (Tracing tracing : world.tracings) {
            slips += world.which(tracing) == 0 ? 1 : 0;
        }
        return slips;
    }

    int places(int bits, int z, int e, int what) {
        List<Tracing> told = new ArrayList<>();
        for (int i = 0; i < Math.min(30, world.tracings.size()); i++) {
            if ((bits & 1 << i) != 0) {
                told.add(world.tracings.get(i));
            }
        }
        allow(!told.isEmpty() && z > -100 && z < 100 && e >= 0 && e <= 30);
        int many = 0;
        int firstX = NOTHING;
        int firstY = NONE;
        for (int y = 1; y <= 300; y++) {
            for (int x = -99; x <= 99; x++) {
                int wrong = 0;
                for (Tracing tracing : told) {
                    Hole hole = world.holes.get(tracing.hole());
                    // rounded down without fractions, as there are many places
                    boolean alike = Math.floorDiv(hole.p() * y - (x - hole.p()) * world.deep, y) == tracing.u()
                            && Math.floorDiv(hole.h() * y - (z - hole.h()) * world.deep, y) == tracing.v();
                    wrong += alike ? 0 : 1;
                }
                if (wrong <= e) {
                    firstX = many == 0 ? x : firstX;
                    firstY = many == 0 ? y : firstY;
                    many++;
                }
            }
        }
        return choose(what, many, firstX, firstY);
    }

    int when(int number, boolean last) {
        Body body = world.body(number);
        if (body.ship()) {
            throw new IndexOutOfBoundsException();
        }
        List<Integer> days = new ArrayList<>();
        for (Tracing tracing : world.tracings) {
            if (world.fits(tracing, body)) {
                days.add(tracing.day());
            }
        }
        days.sort(null);
        return days.isEmpty() ? NONE : days.get(last ? days.size() - 1 : 0);
    }

    int paces(int first, int second, int y, int what) {
        Tracing one = tracing(first);
        Tracing other = tracing(second);
        allow(one.hole() == other.hole() && one.day() == other.day() && one.minute() != other.minute() && y > 0 && y < 301);
        Hole hole = world.holes.get(one.hole());
        int many = 0;
        int firstPace = NOTHING;
        int itsAt = NOTHING;
        for (int pace = -9; pace <= 9; pace++) {
            for (int at = -999; at <= 999; at++) {
                if (world.u(hole, world.deep, at + pace * one.minute(), y).down() == one.u()
                        && world.u(hole, world.deep, at + pace * other.minute(), y).down() == other.u()) {
                    firstPace = many == 0 ? pace : firstPace;
                    itsAt = many == 0 ? at : itsAt;
                    many++;
                    break;
                }
            }
        }
        return choose(what, many, firstPace, itsAt);
    }

    int mark(int x, int y, int hole, int v, boolean many) {
        Hole by = world.hole(hole);
        allow(x > -100 && x < 100 && y > 0 && y < 301);
        List<Integer> tides = new ArrayList<>();
        for (int tide = -9; tide <= 9; tide++) {
            if (world.v(by, world.deep, tide, y).down() == v) {
                tides.add(tide);
            }
        }
        return many ? tides.size() : tides.isEmpty() ? NOTHING : tides.get(0);
    }

    int setting(int bits, int never, int what) {
        Body not = never == NONE ? null : world.body(never);
        int[] best = {NOTHING, NOTHING, NOTHING, NOTHING};
        for (int p = -10; p <= 10; p++) {
            for (int h = 1; h <= 20; h++) {
                for (int deep = 1; deep <= 20; deep++) {
                    Hole hole = new Hole(p, h);
                    int many = 0;
                    for (Body body : world.bodies()) {
                        if ((bits & 1 << body.number()) != 0 && world.seen(body, hole, deep, world.day, world.minute)) {
                            many++;
                        }
                    }
                    if (many > best[0] && (not == null || !world.seen(not, hole, deep, world.day, world.minute))) {
                        best = new int[] {many, p, h, deep};
                    }
                }
            }
        }
        return choose(what, best);
    }

    int way(int minute) {
        if (minute < NONE || minute > 12 || world.minute + 12 > 1439) {
            throw new NoSuchElementException();
        }
        boolean[][] seen = new boolean[13][6];
        for (int step = 0; step < 13; step++) {
            for (int lane = 0; lane < 6; lane++) {
                for (Hole hole : world.holes) {
                    seen[step][lane] |= world.sees(hole, world.deep, -60 + 10 * step, 20 + 20 * lane, 0,
                            world.day, world.minute + step);
                }
            }
        }
        int[] best = new int[14];
        best[13] = 14;
        for (int lane = 0; lane < 6; lane++) {
            tryWays(seen, 0, lane, new int[14], best);
        }
        return minute == NONE ? best[13] : best[minute];
    }

    /** All ways in their order: a later one is better only if it is seen less. */
    private static void tryWays(boolean[][] seen, int step, int lane, int[] lanes, int[] best) {
        if (lane < 0 || lane > 5) {
            return;
        }
        int seenHere = seen[step][lane] ? 1 : 0;
        lanes[step] = lane;
        lanes[13] += seenHere;
        if (lanes[13] < best[13]) {
            if (step == 12) {
                System.arraycopy(lanes, 0, best, 0, 14);
            } else {
                for (int beside = lane - 1; beside <= lane + 1; beside++) {
                    tryWays(seen, step + 1, beside, lanes, best);
                }
            }
        }
        lanes[13] -= seenHere;
    }

    int met(int first, int second, int hole) {
        Body one = world.body(first);
        Body other = world.body(second);
        Hole by = world.hole(hole);
        allow(first != second);
        for (int minute = world.minute; minute < 1440; minute++) {
            if (world.there(one, world.day, minute) && world.there(other, world.day, minute)
                    && (hides(one, other, by, minute) || hides(other, one, by, minute))) {
                return minute;
            }
        }
        return NONE;
    }

    private boolean hides(Body body, Body hidden, Hole hole, int minute) {
        return world.hides(body, hole, world.x(hidden, minute), hidden.y(), world.tipZ(hidden, world.day, minute),
                world.day, minute);
    }

    void image() {
        image = world.copy();
    }

    boolean back() {
        if (image == null) {
            return false;
        }
        world = image.copy();
        return true;
    }

    int count(int what) {
        int[] counts = {world.things.size(), world.ships.size(), world.holes.size(), world.texts,
            world.rules == null ? NONE : world.rules.size(), world.day, world.minute, world.tracings.size(), world.clouds,
            world.fog, world.moon, world.deep, world.left, world.right, world.top, world.light(world.minute) ? 1 : 0};
        return what < 0 || what >= counts.length ? NOTHING : counts[what];
    }

    /** What a word of a SUM stands for. */
    static ToIntFunction<Fact> part(String word) {
        switch (word) {
            case "far": return fact -> fact.body().y();
            case "wide": return fact -> fact.body().wide();
            case "tall": return fact -> fact.body().high() - fact.body().low();
            case "hour": return fact -> fact.minute() / 60;
            case "day": return fact -> fact.day();
            case "body": return fact -> fact.body().number();
            default: return null;
        }
    }
}
