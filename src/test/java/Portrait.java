/** What can be asked of a room without changing it, as one text: two rooms that are alike have one portrait. */
final class Portrait {
    private Portrait() {
    }

    /** Takes few calls, as an object may be asked but 512 times. */
    static String of(WallHarbour x) {
        StringBuilder all = new StringBuilder();
        int[] counts = new int[16];
        for (int what = 0; what < 16; what++) {
            counts[what] = x.count(what);
            all.append(what).append(':').append(counts[what]).append(' ');
        }
        for (int body = 0; body < 16; body++) {
            if (body < 10 ? body < counts[0] : body < 10 + counts[1]) {
                addBody(x, body, counts[2], all);
            }
        }
        for (int minute = 0; minute < 720; minute += 60) {
            all.append(" tide ").append(x.tide(0, minute));
        }
        for (int tracing = 0; tracing < Math.min(counts[7], 4); tracing++) {
            all.append(" which ").append(x.which(tracing));
            for (int z = -1; z < 2; z++) {
                all.append(' ').append(x.places(1 << tracing, z, 0, 0));
            }
        }
        return all.append(" charges ").append(x.charges(counts[5])).toString();
    }

    private static void addBody(WallHarbour x, int body, int holes, StringBuilder all) {
        all.append(" body ").append(body);
        for (int what = 0; what < 8; what++) {
            all.append(' ').append(x.body(body, what));
        }
        all.append(' ').append(x.charge(body));
        for (int hole = 0; hole < holes; hole++) {
            all.append(' ').append(x.spot(body, hole, true, 1)).append(' ').append(x.spot(body, hole, false, 1));
        }
    }
}
