import java.util.List;
import java.util.Random;
import java.util.function.IntSupplier;

/** Long runs of calls, by chance but always the same, each answered by the class and by the model. */
public final class ModelTests {
    private static final int RUNS = 600;
    private static final int CALLS = 512;
    private static final int[] WILD = {0, 1, 2, 3, 9, 10, 11, 12, 15, 16, 29, 30, 31, 32, 39, 40, 60, 99, 100, 300, 301, 720,
        999, 1000, 1439, 1440, -1, -2, -9, -99, -100, -999, -1000, 65536, 1 << 30, Integer.MAX_VALUE, Integer.MIN_VALUE,
        Integer.MAX_VALUE - 12, Integer.MIN_VALUE + 1};

    private final Random chance;
    private final WallHarbour x = new WallHarbour();
    private final Model model = new Model();
    private final RandomTexts texts;
    private final int run;
    private int calls;

    private ModelTests(int run) {
        this.run = run;
        chance = new Random(run);
        texts = new RandomTexts(chance, run % 5 < 3 ? 0 : run % 5 - 2);
    }

    public static void main(String[] args) {
        for (int run = 0; run < RUNS; run++) {
            new ModelTests(run).go();
        }
        Check.finish("ModelTests");
    }

    private static String answer(IntSupplier call) {
        try {
            return Integer.toString(call.getAsInt());
        } catch (RuntimeException e) {
            return e.getClass().getName();
        }
    }

    /** What an object answers behind its last call is free, and is not asked. */
    private void same(String call, IntSupplier got, IntSupplier due) {
        if (calls == CALLS) {
            return;
        }
        calls++;
        Check.same("run " + run + ", call " + calls + ": " + call, answer(got), answer(due));
    }

    private void go() {
        harbour();
        harbour();
        harbour();
        if (chance.nextInt(4) > 0) {
            law();
        }
        time();
        while (calls < CALLS) {
            int kind = chance.nextInt(100);
            if (kind < 5) {
                harbour();
            } else if (kind < 9) {
                law();
            } else if (kind < 12) {
                tape();
            } else if (kind < 14) {
                wild();
            } else if (kind < 20) {
                time();
            } else if (kind < 55) {
                look();
            } else if (kind < 80) {
                trace();
            } else {
                find();
            }
        }
    }

    private void read(boolean harbour) {
        if (harbour) {
            same("harbour()", x::harbour, model::harbour);
        } else {
            same("law()", x::law, model::law);
        }
        same("fault()", x::fault, model::fault);
    }

    private void feed(String text) {
        for (int at = 0; at < text.length(); at += 20) {
            int a = Texts.word(text, at);
            int b = Texts.word(text, at + 4);
            int c = Texts.word(text, at + 8);
            int d = Texts.word(text, at + 12);
            int e = Texts.word(text, at + 16);
            same("feed of " + text, () -> x.feed(a, b, c, d, e), () -> model.feed(a, b, c, d, e));
        }
        end(text.length());
    }

    private void end(int n) {
        same("end " + n, () -> x.end(n) ? 1 : 0, () -> model.end(n) ? 1 : 0);
    }

    private void harbour() {
        feed(texts.harbour());
        read(chance.nextInt(50) > 0);
    }

    private void law() {
        feed(texts.law());
        read(chance.nextInt(50) == 0);
    }

    private void tape() {
        switch (chance.nextInt(4)) {
            case 0: end(chance.nextInt(60) - 5); break;
            case 1: read(chance.nextBoolean()); break;
            case 2: same("back()", () -> x.back() ? 1 : 0, () -> model.back() ? 1 : 0); break;
            default: same("image()", () -> imageOf(x), () -> imageOf(model));
        }
    }

    private static int imageOf(WallHarbour x) {
        x.image();
        return 0;
    }

    private static int imageOf(Model model) {
        model.image();
        return 0;
    }

    private int day() {
        return chance.nextInt(40) == 0 ? chance.nextInt(3) * 1001 - 1001 : texts.day();
    }

    private int minute() {
        return chance.nextInt(40) == 0 ? chance.nextInt(3) * 1441 - 1441 : texts.minute();
    }

    private int body() {
        List<Model.Body> bodies = model.world.bodies();
        return bodies.isEmpty() || chance.nextInt(24) == 0 ? chance.nextInt(40) - 10
                : bodies.get(chance.nextInt(bodies.size())).number();
    }

    private int hole() {
        int holes = model.world.holes.size();
        return holes == 0 || chance.nextInt(24) == 0 ? chance.nextInt(6) - 2 : chance.nextInt(holes);
    }

    private int what(int most) {
        return chance.nextInt(20) == 0 ? chance.nextInt(40) - 20 : chance.nextInt(most + 1);
    }

    private int tracing() {
        return chance.nextInt(20) == 0 ? chance.nextInt(60) - 10 : chance.nextInt(1 + Math.max(0, model.count(7)));
    }

    private void time() {
        int day = day();
        int minute = minute();
        same("now " + day + " " + minute, () -> x.now(day, minute), () -> model.now(day, minute));
        same("tide", () -> x.tide(day, minute), () -> model.tide(day, minute));
        int what = what(15);
        same("count " + what, () -> x.count(what), () -> model.count(what));
    }

    private void look() {
        int body = body();
        int hole = hole();
        switch (chance.nextInt(6)) {
            case 0: {
                int what = what(7);
                same("body " + body + " " + what, () -> x.body(body, what), () -> model.body(body, what));
                break;
            }
            case 1: {
                int what = what(2);
                boolean up = chance.nextBoolean();
                same("spot " + body + " " + hole + " " + up + " " + what, () -> x.spot(body, hole, up, what),
                        () -> model.spot(body, hole, up, what));
                break;
            }
            case 2: same("seen " + body + " " + hole, () -> x.seen(body, hole) ? 1 : 0, () -> model.seen(body, hole) ? 1 : 0); break;
            case 3: same("hider " + body + " " + hole, () -> x.hider(body, hole), () -> model.hider(body, hole)); break;
            case 4: same("charge " + body, () -> x.charge(body), () -> model.charge(body)); break;
            default: {
                int day = day();
                same("charges " + day, () -> x.charges(day), () -> model.charges(day));
            }
        }
    }

    private void trace(int day, int minute, int hole, int u, int v) {
        same("trace " + day + " " + minute + " " + hole + " " + u + " " + v,
                () -> x.trace(day, minute, hole, u, v), () -> model.trace(day, minute, hole, u, v));
    }

    private void trace() {
        int body = body();
        int hole = hole();
        int tracing = tracing();
        switch (chance.nextInt(8)) {
            case 0:
            case 1: {
                boolean isNow = chance.nextBoolean();
                int[] uv = {chance.nextInt(2100) - 1050, chance.nextInt(2100) - 1050};
                if (chance.nextInt(6) > 0) {
                    aim(body, hole, uv);
                }
                trace(isNow ? model.world.day : day(), isNow ? model.world.minute : minute(), hole, uv[0], uv[1]);
                break;
            }
            case 2:
            case 3: same("draw " + body + " " + hole, () -> x.draw(body, hole), () -> model.draw(body, hole)); break;
            case 4: same("undo", x::undo, model::undo); break;
            case 5: same("which " + tracing, () -> x.which(tracing), () -> model.which(tracing)); break;
            case 6: same("slips", x::slips, model::slips); break;
            default: {
                boolean last = chance.nextBoolean();
                same("when " + body + " " + last, () -> x.when(body, last), () -> model.when(body, last));
            }
        }
    }

    /** Where the body is on the wall now, or beside it. */
    private void aim(int body, int hole, int[] uv) {
        try {
            uv[0] = model.spot(body, hole, false, 0) + (chance.nextInt(8) == 0 ? 1 : 0);
            uv[1] = model.spot(body, hole, true, 0) - (chance.nextInt(8) == 0 ? 1 : 0);
        } catch (IndexOutOfBoundsException e) {
            uv[0] = chance.nextInt(9);
        }
    }

    private void find() {
        int body = body();
        int hole = hole();
        switch (chance.nextInt(12)) {
            case 0: places(chance.nextInt(3) == 0 ? chance.nextInt() : 1 << chance.nextInt(12) | 1 << chance.nextInt(4),
                        chance.nextInt(30) == 0 ? chance.nextInt(300) - 150 : chance.nextInt(24) - 4); break;
            case 1: tracedPlace(); break;
            case 2: paces(tracing(), tracing(), chance.nextInt(30) == 0 ? chance.nextInt(320) - 10 : texts.y()); break;
            case 3:
            case 4: tracedPace(); break;
            case 5:
            case 6: mark(hole); break;
            case 7:
                if (chance.nextInt(4) == 0) {
                    setting();
                }
                break;
            case 8: {
                int minute = chance.nextInt(20) == 0 ? chance.nextInt(30) - 10 : chance.nextInt(14) - 1;
                same("way " + minute, () -> x.way(minute), () -> model.way(minute));
                break;
            }
            default: {
                int other = body();
                same("met " + body + " " + other + " " + hole, () -> x.met(body, other, hole), () -> model.met(body, other, hole));
            }
        }
    }

    private void places(int bits, int z) {
        int e = chance.nextInt(20) == 0 ? chance.nextInt(40) - 4 : chance.nextInt(3);
        int what = what(2);
        same("places " + bits + " " + z + " " + e + " " + what, () -> x.places(bits, z, e, what),
                () -> model.places(bits, z, e, what));
    }

    /** Undoes some tracings, so that there is room for others. */
    private void makeRoom() {
        while (calls < CALLS && model.world.tracings.size() > 20) {
            same("undo", x::undo, model::undo);
        }
    }

    /** A place is traced by some holes, by some of them wrong, and looked for. */
    private void tracedPlace() {
        makeRoom();
        int at = chance.nextInt(199) - 99;
        int y = texts.y();
        int z = chance.nextInt(24) - 4;
        int bits = 0;
        int many = 1 + chance.nextInt(5);
        for (int i = 0; i < many && !model.world.holes.isEmpty(); i++) {
            int hole = chance.nextInt(model.world.holes.size());
            Model.Hole by = model.world.holes.get(hole);
            bits |= 1 << model.world.tracings.size();
            trace(1, 2, hole, model.world.u(by, model.world.deep, at, y).down() + (chance.nextInt(9) == 0 ? 1 : 0),
                    model.world.v(by, model.world.deep, z, y).down() + (chance.nextInt(9) == 0 ? 1 : 0));
        }
        places(bits, z);
        places(bits, z);
    }

    private void paces(int first, int second, int y) {
        int what = what(2);
        same("paces " + first + " " + second + " " + y + " " + what, () -> x.paces(first, second, y, what),
                () -> model.paces(first, second, y, what));
    }

    /** A ship is traced at two minutes, and its pace looked for. */
    private void tracedPace() {
        makeRoom();
        if (model.world.holes.isEmpty()) {
            return;
        }
        int hole = chance.nextInt(model.world.holes.size());
        Model.Hole by = model.world.holes.get(hole);
        int y = texts.y();
        int pace = chance.nextInt(19) - 9;
        int minute = chance.nextInt(100);
        int later = minute + 1 + chance.nextInt(30);
        int at = chance.nextInt(8) == 0 ? 990 + chance.nextInt(20) : chance.nextInt(300) - 150 - pace * minute;
        int first = model.world.tracings.size();
        trace(3, minute, hole, model.world.u(by, model.world.deep, at + pace * minute, y).down(), 0);
        trace(3, later, hole, model.world.u(by, model.world.deep, at + pace * later, y).down(), 1);
        for (int i = 0; i < 3; i++) {
            paces(first, first + 1, y);
        }
        paces(first + 1, first, chance.nextBoolean() ? y : texts.y());
    }

    private void mark(int hole) {
        int at = chance.nextInt(30) == 0 ? chance.nextInt(300) - 150 : 0;
        int y = chance.nextInt(30) == 0 ? chance.nextInt(320) - 10 : texts.y();
        int v = chance.nextInt(40) - 10;
        if (chance.nextInt(4) > 0 && hole >= 0 && hole < model.world.holes.size() && y > 0) {
            v = model.world.v(model.world.holes.get(hole), model.world.deep, chance.nextInt(21) - 10, y).down();
        }
        int read = v;
        boolean many = chance.nextBoolean();
        same("mark " + at + " " + y + " " + hole + " " + v + " " + many, () -> x.mark(at, y, hole, read, many),
                () -> model.mark(at, y, hole, read, many));
    }

    private int any() {
        return WILD[chance.nextInt(WILD.length)];
    }

    /** Whatever the numbers are, no call throws but what the document says. */
    private void wild() {
        int a = any();
        int b = any();
        int c = any();
        int d = any();
        int e = any();
        boolean f = chance.nextBoolean();
        String of = " of " + a + " " + b + " " + c + " " + d + " " + e + " " + f;
        switch (chance.nextInt(20)) {
            case 0: same("end" + of, () -> x.end(a) ? 1 : 0, () -> model.end(a) ? 1 : 0); break;
            case 1: same("now" + of, () -> x.now(a, b), () -> model.now(a, b)); break;
            case 2: same("body" + of, () -> x.body(a, b), () -> model.body(a, b)); break;
            case 3: same("spot" + of, () -> x.spot(a, b, f, c), () -> model.spot(a, b, f, c)); break;
            case 4: same("seen" + of, () -> x.seen(a, b) ? 1 : 0, () -> model.seen(a, b) ? 1 : 0); break;
            case 5: same("hider" + of, () -> x.hider(a, b), () -> model.hider(a, b)); break;
            case 6: same("charge" + of, () -> x.charge(a), () -> model.charge(a)); break;
            case 7: same("charges" + of, () -> x.charges(a), () -> model.charges(a)); break;
            case 8: same("tide" + of, () -> x.tide(a, b), () -> model.tide(a, b)); break;
            case 9: same("trace" + of, () -> x.trace(a, b, c, d, e), () -> model.trace(a, b, c, d, e)); break;
            case 10: same("draw" + of, () -> x.draw(a, b), () -> model.draw(a, b)); break;
            case 11: same("which" + of, () -> x.which(a), () -> model.which(a)); break;
            case 12: same("places" + of, () -> x.places(a, b, c, d), () -> model.places(a, b, c, d)); break;
            case 13: same("when" + of, () -> x.when(a, f), () -> model.when(a, f)); break;
            case 14: same("paces" + of, () -> x.paces(a, b, c, d), () -> model.paces(a, b, c, d)); break;
            case 15: same("mark" + of, () -> x.mark(a, b, c, d, f), () -> model.mark(a, b, c, d, f)); break;
            case 16: same("setting" + of, () -> x.setting(a, b, 4), () -> model.setting(a, b, 4)); break;
            case 17: same("way" + of, () -> x.way(a), () -> model.way(a)); break;
            case 18: same("met" + of, () -> x.met(a, b, c), () -> model.met(a, b, c)); break;
            default: same("count" + of, () -> x.count(a), () -> model.count(a));
        }
    }

    private void setting() {
        int bits = chance.nextInt();
        int never = chance.nextInt(3) == 0 ? -1 : body();
        int what = what(3);
        same("setting " + bits + " " + never + " " + what, () -> x.setting(bits, never, what),
                () -> model.setting(bits, never, what));
    }
}
