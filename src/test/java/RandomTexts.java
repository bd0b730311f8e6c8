import java.util.Random;

/** Makes texts by chance: mostly right ones, some with a byte too much, too few or another one. */
final class RandomTexts {
    private static final String[] SPOILERS = {"not ", "(", ")", "west ", "1", "0", ";", " ", "x", "low ", "<", "+", "seen ",
        "and ", "\u00e9", "\0", "9", "from ", "Z", "if ", "-", "`", "{", "/", ":", "!"};

    private final Random chance;
    /** 0: all about the middle, so that much is hidden and fits; 1: over the whole room; 2: now so, now so. */
    private final int spread;

    RandomTexts(Random chance, int spread) {
        this.chance = chance;
        this.spread = spread;
    }

    private boolean isWide() {
        return spread == 1 || spread == 2 && chance.nextBoolean();
    }

    private int upTo(int most) {
        return chance.nextInt(most + 1);
    }

    /** A number from least to most: beyond that now and then, and its ends more often than the others. */
    private int within(int least, int most) {
        switch (chance.nextInt(200)) {
            case 0: return most + 1;
            case 1: return Math.max(least - 1, 0);
            case 2:
            case 3:
            case 4: return most;
            case 5:
            case 6:
            case 7: return least;
            default: return least + upTo(most - least);
        }
    }

    private String blanks() {
        return chance.nextInt(12) == 0 ? "  " : " ";
    }

    private String sideways(int most, int near) {
        int value = isWide() ? within(0, most) : within(0, Math.min(most, near));
        return (chance.nextInt(3) == 0 ? blanks() + "west" : "") + blanks() + value;
    }

    private String number(int least, int most) {
        return blanks() + (chance.nextInt(60) == 0 ? "0" : "") + within(least, most);
    }

    int y() {
        return isWide() ? 1 + upTo(299) : chance.nextInt(4) == 0 ? 10 + upTo(120) : 20 * (1 + upTo(5));
    }

    int day() {
        return isWide() ? upTo(999) : upTo(6);
    }

    int minute() {
        return isWide() ? upTo(1439) : chance.nextInt(6) == 0 ? 60 * upTo(23) : 380 + upTo(40);
    }

    String harbour() {
        StringBuilder text = new StringBuilder(chance.nextInt(10) == 0 ? " " : "");
        int lines = chance.nextInt(25) == 0 ? upTo(20) : upTo(7);
        boolean shortOnes = lines > 10;
        for (int i = 0; i < lines && text.length() < 340; i++) {
            text.append(i == 0 ? "" : chance.nextInt(6) == 0 ? " ; " : ";");
            text.append(shortOnes ? "clear" : harbourLine());
        }
        return spoilt(text);
    }

    private String harbourLine() {
        int kind = chance.nextInt(22);
        if (kind < 8) {
            int from = day();
            return "thing" + sideways(99, 12) + shape() + " from" + blanks() + from + " to"
                    + number(from, isWide() ? 999 : Math.max(from, 6));
        }
        if (kind < 12) {
            int from = minute();
            int pace = chance.nextInt(5) - 2;
            int at = isWide() ? upTo(1998) - 999 : Math.max(-999, Math.min(999, upTo(40) - 20 - pace * (from + upTo(40))));
            String signed = isWide() ? sideways(9, 9) : (pace < 0 ? " west " : " ") + Math.abs(pace);
            return "ship" + (at < 0 ? " west " : " ") + Math.abs(at) + shape() + " pace" + signed
                    + " from" + blanks() + from + " to" + number(from, 1439);
        }
        switch (kind) {
            case 12:
            case 13:
            case 14: return "hole" + sideways(50, 8) + (isWide() ? number(1, 50) : number(3, 14));
            case 15: {
                int left = isWide() ? upTo(99) : 10 + upTo(50);
                return "wall" + (isWide() ? number(1, 50) : number(8, 20)) + " from" + blanks() + "west " + left + " to"
                        + blanks() + (isWide() ? within(0, 99) : within(10, 60)) + " top" + number(5, 99);
            }
            case 16: return "wall " + within(1, 50) + " from " + upTo(20) + " to" + number(20, 99) + " top" + number(0, 99);
            case 17: return chance.nextInt(4) == 0 ? "cloud" + number(0, 23) + number(0, 23) : "clear";
            case 18: return chance.nextInt(4) == 0 ? "fog" + number(1, 300) : "fog " + within(100, 300);
            case 19: return "moon" + number(0, 11);
            default: return "tide" + number(0, 11) + (chance.nextInt(3) == 0 ? " low" : "") + number(0, 9);
        }
    }

    private String shape() {
        boolean wide = isWide();
        int low = wide ? upTo(99) : chance.nextInt(3) == 0 ? upTo(6) : 0;
        return blanks() + y() + (wide ? number(0, 20) : number(0, 8)) + blanks() + low + number(low, wide ? 99 : low + 16);
    }

    String law() {
        StringBuilder text = new StringBuilder();
        int lines = chance.nextInt(25) == 0 ? upTo(16) : upTo(5);
        for (int i = 0; i < lines && text.length() < 340; i++) {
            text.append(i == 0 ? "" : chance.nextInt(6) == 0 ? " ; " : ";").append("charge").append(number(0, 999));
            if (lines < 10 && chance.nextInt(6) > 0) {
                text.append(" if ").append(any(lines > 2 ? 1 : 3));
            }
        }
        return spoilt(text);
    }

    private String any(int deep) {
        StringBuilder any = new StringBuilder(all(deep));
        while (deep > 0 && chance.nextInt(3) == 0) {
            any.append(" or ").append(all(deep));
        }
        return any.toString();
    }

    private String all(int deep) {
        StringBuilder all = new StringBuilder(atom(deep));
        while (deep > 0 && chance.nextInt(3) == 0) {
            all.append(" and ").append(atom(deep));
        }
        return all.toString();
    }

    private String atom(int deep) {
        int kind = chance.nextInt(10);
        if (deep > 0 && kind < 2) {
            return "not " + atom(chance.nextInt(3) > 0 ? deep : deep - 1);
        }
        if (deep > 0 && kind < 5) {
            return chance.nextInt(3) == 0 ? "((" + any(deep - 1) + "))" : "( " + any(deep - 1) + ")";
        }
        if (kind == 5) {
            return "seen";
        }
        if (kind == 6) {
            return "ship";
        }
        return sum() + (chance.nextBoolean() ? "<" : " > ") + sum();
    }

    private String sum() {
        StringBuilder sum = new StringBuilder(part());
        while (chance.nextInt(3) == 0) {
            sum.append(chance.nextBoolean() ? "+" : " + ").append(part());
        }
        return sum.toString();
    }

    private String part() {
        switch (chance.nextInt(9)) {
            case 0: return "far";
            case 1: return "wide";
            case 2: return "tall";
            case 3: return "hour";
            case 4: return "day";
            case 5: return "body";
            default: return Integer.toString(within(0, isWide() ? 999 : 20));
        }
    }

    private String spoilt(StringBuilder text) {
        if (chance.nextInt(3) == 0 && text.length() > 0) {
            int at = chance.nextInt(text.length());
            String spoiler = SPOILERS[chance.nextInt(SPOILERS.length)];
            switch (chance.nextInt(4)) {
                case 0: text.deleteCharAt(at); break;
                case 1: text.setCharAt(at, spoiler.charAt(0)); break;
                case 2: text.insert(at, spoiler); break;
                default: text.setLength(at);
            }
        }
        if (text.length() > 400) {
            text.setLength(400);
        }
        return text.toString();
    }
}
