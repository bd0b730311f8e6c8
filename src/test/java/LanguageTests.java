import java.io.DataInputStream;
import java.io.IOException;
import java.io.InputStream;
import java.nio.file.Files;
import java.nio.file.Path;
import java.util.List;
import java.util.Map;
import java.util.Set;
import java.util.regex.Matcher;
import java.util.regex.Pattern;

/** What of ../shared/LANGUAGE.md can be read off the class's source (its path is the argument) and its bytes. */
public final class LanguageTests {
    private static final int LONGEST_METHOD = 75;
    private static final int MOST_PARAMETERS = 7;

    /** The library of rules 4 and 6, and what the compiler itself calls for enums, records and loops over lists. */
    private static final Map<String, Set<String>> LIBRARY = Map.ofEntries(
            Map.entry("java/lang/Object", Set.of("<init>", "getClass")),
            Map.entry("java/lang/Enum", Set.of("<init>", "valueOf", "ordinal")),
            Map.entry("java/lang/Record", Set.of("<init>")),
            Map.entry("java/lang/runtime/ObjectMethods", Set.of("bootstrap")),
            Map.entry("java/lang/String", Set.of("<init>", "length", "charAt", "isEmpty", "equals", "indexOf", "substring",
                    "toCharArray")),
            Map.entry("java/lang/StringBuilder", Set.of("<init>", "append", "charAt", "setCharAt", "setLength",
                    "deleteCharAt", "reverse", "length", "toString")),
            Map.entry("java/util/ArrayList", Set.of("<init>", "add", "get", "set", "remove", "size", "isEmpty", "clear",
                    "iterator")),
            Map.entry("java/util/List", Set.of("add", "get", "set", "remove", "size", "isEmpty", "clear", "iterator", "of")),
            Map.entry("java/util/Iterator", Set.of("hasNext", "next")),
            Map.entry("java/lang/Iterable", Set.of("iterator")),
            Map.entry("java/lang/Comparable", Set.of("compareTo")),
            Map.entry("java/lang/System", Set.of("arraycopy")),
            Map.entry("java/util/Arrays", Set.of("copyOf", "copyOfRange", "fill")));

    private static final Set<String> OF_NUMBERS = Set.of("java/lang/Integer", "java/lang/Long", "java/lang/Math");

    private static final Set<String> EXCEPTIONS = Set.of("java/lang/IllegalStateException",
            "java/lang/IllegalArgumentException", "java/lang/IndexOutOfBoundsException", "java/lang/ArithmeticException",
            "java/lang/UnsupportedOperationException", "java/util/NoSuchElementException", "java/lang/RuntimeException");

    /** A "case" may have an arrow, a lambda may not be. */
    private static final List<String> NEVER = List.of("(?m)^(?!\\s*(case|default)\\b).*->", "::", "\\bfinally\\b",
            "\\bsynchronized\\b", "\\bassert\\b", "\\bpackage\\b", "\\bnative\\b", "\\bvolatile\\b", "\\bstatic \\{",
            "\\btry \\(", "\\bgetMessage\\b", "\\b(hashCode|identityHashCode)\\b");

    public static void main(String[] args) throws IOException {
        libraryOf(WallHarbour.class);
        for (Class<?> inside : WallHarbour.class.getDeclaredClasses()) {
            libraryOf(inside);
        }
        if (args.length > 0) {
            source(Files.readString(Path.of(args[0])));
        }
        Check.finish("LanguageTests");
    }

    private static boolean isAllowed(String owner, String name) {
        if (owner.startsWith("WallHarbour") || owner.startsWith("[") && name.equals("clone")) {
            return true;
        }
        if (OF_NUMBERS.contains(owner)) {
            return !name.endsWith("Exact");
        }
        if (EXCEPTIONS.contains(owner)) {
            return name.equals("<init>");
        }
        return LIBRARY.getOrDefault(owner, Set.of()).contains(name);
    }

    private static void libraryOf(Class<?> type) throws IOException {
        String file = type.getName() + ".class";
        try (InputStream bytes = type.getResourceAsStream(file); DataInputStream in = new DataInputStream(bytes)) {
            in.readInt();
            in.readInt();
            int size = in.readUnsignedShort();
            int[] kinds = new int[size];
            int[] firsts = new int[size];
            int[] seconds = new int[size];
            String[] texts = new String[size];
            for (int i = 1; i < size; i++) {
                kinds[i] = in.readUnsignedByte();
                switch (kinds[i]) {
                    case 1: texts[i] = in.readUTF(); break;
                    case 3: case 4: in.readInt(); break;
                    case 5: case 6: in.readLong(); i++; break;
                    case 7: case 8: case 16: case 19: case 20: firsts[i] = in.readUnsignedShort(); break;
                    case 15: in.readUnsignedByte(); in.readUnsignedShort(); break;
                    default:
                        firsts[i] = in.readUnsignedShort();
                        seconds[i] = in.readUnsignedShort();
                }
            }
            for (int i = 1; i < size; i++) {
                if (kinds[i] >= 9 && kinds[i] <= 11) {
                    String owner = texts[firsts[firsts[i]]];
                    String name = texts[firsts[seconds[i]]];
                    Check.tell(isAllowed(owner, name), type + " uses " + owner + "." + name);
                }
                if (kinds[i] == 7) {
                    Check.tell(!texts[firsts[i]].startsWith("[[L"), "an array of arrays of objects in " + type);
                }
            }
        }
    }

    private static void source(String source) {
        Check.tell(source.chars().allMatch(sign -> sign == '\n' || sign == '\r' || sign == '\t' || sign >= ' ' && sign < 127),
                "signs beyond 127");
        String code = source.replaceAll("(?s)/\\*.*?\\*/", "").replaceAll("//[^\n]*", "").replaceAll("\"[^\"\n]*\"", "\"\"");
        for (String never : NEVER) {
            Check.tell(!Pattern.compile(never).matcher(code).find(), "the file has " + never);
        }
        methodsAreShort(code);
    }

    private static void methodsAreShort(String code) {
        String[] lines = code.split("\n");
        Pattern head = Pattern.compile(
                "^( +)(?=[a-zA-Z])(?!.*\\b(class|new|return|if|for|switch|while|else|try|catch|enum|record)\\b)[^;]*\\((.*)\\).*\\{$");
        for (int i = 0; i < lines.length; i++) {
            Matcher matcher = head.matcher(lines[i]);
            if (!matcher.find()) {
                continue;
            }
            int end = i;
            while (end < lines.length && !lines[end].equals(matcher.group(1) + "}")) {
                end++;
            }
            Check.tell(end - i < LONGEST_METHOD, "a method of " + (end - i) + " lines: " + lines[i]);
            Check.tell(matcher.group(3).split(",").length <= MOST_PARAMETERS, "many parameters: " + lines[i]);
        }
    }
}
