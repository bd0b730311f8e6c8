import java.util.ArrayList;
import java.util.List;
import java.util.function.Predicate;
import java.util.function.ToIntFunction;

/** Reads texts for the model: first all is cut into words, numbers and signs, then these are gone through. */
final class ModelText {
    /** The text cannot go on so. */
    static final class Wrong extends Exception {
        private static final long serialVersionUID = 1;
        final int at;

        Wrong(int at) {
            this.at = at;
        }
    }

    private record Piece(String text, int at) {
    }

    private final List<Piece> pieces = new ArrayList<>();
    private int next;

    ModelText(String text) {
        int at = 0;
        while (at < text.length()) {
            int from = at++;
            if (isWord(text.charAt(from))) {
                while (at < text.length() && isWord(text.charAt(at))) {
                    at++;
                }
            } else if (isFigure(text.charAt(from))) {
                while (at < text.length() && isFigure(text.charAt(at))) {
                    at++;
                }
            } else if (text.charAt(from) == ' ') {
                continue;
            }
            pieces.add(new Piece(text.substring(from, at), from));
        }
        pieces.add(new Piece("", text.length()));
    }

    private static boolean isWord(char sign) {
        return sign >= 'a' && sign <= 'z';
    }

    private static boolean isFigure(char sign) {
        return sign >= '0' && sign <= '9';
    }

    private String peek() {
        return pieces.get(next).text();
    }

    private Wrong wrong() {
        return new Wrong(pieces.get(next).at());
    }

    private boolean take(String text) {
        if (!peek().equals(text)) {
            return false;
        }
        next++;
        return true;
    }

    private void need(String text) throws Wrong {
        if (!take(text)) {
            throw wrong();
        }
    }

    private boolean isAtNumber() {
        return !peek().isEmpty() && isFigure(peek().charAt(0));
    }

    private int number(int figures, int least, int most, boolean west) throws Wrong {
        boolean below = west && take("west");
        if (!isAtNumber() || peek().length() > figures) {
            throw wrong();
        }
        int value = Integer.parseInt(peek()) * (below ? -1 : 1);
        if (value < least || value > most) {
            throw wrong();
        }
        next++;
        return value;
    }

    private int number(int least, int most) throws Wrong {
        return number(3, least, most, false);
    }

    void readHarbour(Model.World world) throws Wrong {
        if (peek().isEmpty()) {
            return;
        }
        int lines = 0;
        do {
            if (lines++ == 14) {
                throw wrong();
            }
            readLine(world);
        } while (take(";"));
        need("");
    }

    private void readLine(Model.World world) throws Wrong {
        String word = peek();
        boolean full = word.equals("thing") && world.things.size() == 10 || word.equals("ship") && world.ships.size() == 6
                || word.equals("hole") && world.holes.size() == 3;
        if (full || !List.of("thing", "ship", "hole", "wall", "cloud", "clear", "fog", "moon", "tide").contains(word)) {
            throw wrong();
        }
        next++;
        switch (word) {
            case "thing": world.things.add(readBody(false, world.things.size())); break;
            case "ship": world.ships.add(readBody(true, 10 + world.ships.size())); break;
            case "hole": {
                int p = number(3, -50, 50, true);
                world.holes.add(new Model.Hole(p, number(1, 50)));
                break;
            }
            case "wall": readWall(world); break;
            case "cloud": {
                world.clouds = 0;
                do {
                    world.clouds |= 1 << number(0, 23);
                } while (isAtNumber());
                break;
            }
            case "clear": world.clouds = 0; break;
            case "fog": world.fog = number(1, 300); break;
            case "moon": world.moon = number(0, 11); break;
            default: {
                int level = number(0, 11);
                int sign = take("low") ? -1 : 1;
                world.tides[level] = sign * number(0, 9);
            }
        }
    }

    private Model.Body readBody(boolean ship, int number) throws Wrong {
        int x = ship ? number(3, -999, 999, true) : number(3, -99, 99, true);
        int y = number(1, 300);
        int wide = number(0, 20);
        int low = number(0, 99);
        int high = number(low, 99);
        int pace = 0;
        if (ship) {
            need("pace");
            pace = number(3, -9, 9, true);
        }
        need("from");
        int most = ship ? 1439 : 999;
        int from = number(ship ? 4 : 3, 0, most, false);
        need("to");
        int to = number(ship ? 4 : 3, from, most, false);
        return new Model.Body(number, x, pace, y, wide, low, high, from, to);
    }

    private void readWall(Model.World world) throws Wrong {
        world.deep = number(1, 50);
        need("from");
        world.left = number(3, -99, 99, true);
        need("to");
        world.right = number(3, world.left, 99, true);
        need("top");
        world.top = number(0, 99);
    }

    List<Model.Rule> readLaw() throws Wrong {
        List<Model.Rule> rules = new ArrayList<>();
        if (peek().isEmpty()) {
            return rules;
        }
        do {
            if (rules.size() == 12) {
                throw wrong();
            }
            need("charge");
            int amount = number(0, 999);
            rules.add(new Model.Rule(amount, take("if") ? any(0) : fact -> true));
        } while (take(";"));
        need("");
        return rules;
    }

    private Predicate<Model.Fact> any(int deep) throws Wrong {
        Predicate<Model.Fact> any = all(deep);
        while (take("or")) {
            any = any.or(all(deep));
        }
        return any;
    }

    private Predicate<Model.Fact> all(int deep) throws Wrong {
        Predicate<Model.Fact> all = atom(deep);
        while (take("and")) {
            all = all.and(atom(deep));
        }
        return all;
    }

    private Predicate<Model.Fact> atom(int deep) throws Wrong {
        if (deep == 6 && (peek().equals("(") || peek().equals("not"))) {
            throw wrong();
        }
        if (take("not")) {
            return atom(deep + 1).negate();
        }
        if (take("(")) {
            Predicate<Model.Fact> inner = any(deep + 1);
            need(")");
            return inner;
        }
        if (take("seen")) {
            return Model.Fact::seen;
        }
        if (take("ship")) {
            return fact -> fact.body().ship();
        }
        ToIntFunction<Model.Fact> left = sum();
        boolean less = peek().equals("<");
        if (!less && !peek().equals(">")) {
            throw wrong();
        }
        next++;
        ToIntFunction<Model.Fact> right = sum();
        return fact -> less ? left.applyAsInt(fact) < right.applyAsInt(fact) : left.applyAsInt(fact) > right.applyAsInt(fact);
    }

    private ToIntFunction<Model.Fact> sum() throws Wrong {
        List<ToIntFunction<Model.Fact>> parts = new ArrayList<>();
        do {
            ToIntFunction<Model.Fact> part = Model.part(peek());
            if (part == null) {
                int value = number(0, 999);
                part = fact -> value;
            } else {
                next++;
            }
            parts.add(part);
        } while (take("+"));
        return fact -> {
            int sum = 0;
            for (ToIntFunction<Model.Fact> part : parts) {
                sum += part.applyAsInt(fact);
            }
            return sum;
        };
    }
}
