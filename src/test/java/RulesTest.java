import java.lang.reflect.Constructor;
import java.lang.reflect.Field;
import java.lang.reflect.Method;
import java.lang.reflect.Modifier;
import java.nio.charset.StandardCharsets;
import java.nio.file.Files;
import java.nio.file.Path;
import java.util.ArrayList;
import java.util.List;
import java.util.Set;
import java.util.TreeSet;
import java.util.regex.Matcher;
import java.util.regex.Pattern;

/** The face of the document, the rules of LANGUAGE.md that can be looked up, and that no call throws. */
public final class RulesTest {
    private static final String[] FACE = {
        "size 1", "byteOf 2", "length 1", "patch 2", "terms 2", "feed 5", "end 1", "file 1", "bring 1", "bar 2",
        "recipe 1", "fault 0", "stopped 0", "set 2", "cut 2", "put 2", "move 3", "make 1", "join 3", "turn 2",
        "apply 1", "flaw 0", "loaded 1", "begin 1", "write 1", "left 0", "spoil 3", "seal 1", "drop 1", "swap 0",
        "advance 0", "undo 0", "sorted 2", "kinds 1", "repeated 1", "match 2", "anchor 2", "origin 2", "parts 1",
        "part 3", "way 2", "order 2", "dropped 2", "flawOf 1", "cheapest 1", "apart 0", "stay 1", "save 2",
        "listed 1", "listing 2", "best 1", "count 1", "status 0"};
    private static int wrong = 0;

    private static void must(boolean so, String what) {
        if (!so) {
            wrong++;
            System.out.println(what);
        }
    }

    private static void face() {
        Class<?> type = TailPatches.class;
        must(Modifier.isPublic(type.getModifiers()) && Modifier.isFinal(type.getModifiers()), "public, final");
        Set<String> want = new TreeSet<>(List.of(FACE));
        Set<String> got = new TreeSet<>();
        Set<String> names = new TreeSet<>();
        for (Method m : type.getDeclaredMethods()) {
            if (Modifier.isPublic(m.getModifiers())) {
                got.add(m.getName() + " " + m.getParameterCount());
                names.add(m.getName());
                must(m.getReturnType() == int.class, m + " answers no int");
            } else {
                must(Modifier.isPrivate(m.getModifiers()), m + " is not private");
            }
        }
        must(got.equals(want), "the face is " + got);
        Constructor<?>[] made = type.getDeclaredConstructors();
        must(made.length == 1 && made[0].getParameterCount() == 0, "one constructor");
        for (Field f : type.getDeclaredFields()) {
            boolean none = f.getName().equals("NONE") && Modifier.isPublic(f.getModifiers());
            must(none || Modifier.isPrivate(f.getModifiers()), f + " is not private");
        }
        List<Class<?>> all = new ArrayList<>(List.of(type.getDeclaredClasses()));
        must(all.size() <= 11, "classes inside: " + all.size());
        all.add(type);
        for (Class<?> c : all) {
            must(c == type || Modifier.isStatic(c.getModifiers()), c + " is not static");
            must(c.getDeclaredClasses().length == 0 || c == type, c + " has classes inside");
            fieldsAndMethods(c, c == type ? Set.of() : names);
        }
    }

    private static void fieldsAndMethods(Class<?> c, Set<String> taken) {
        int fields = 0;
        for (Field f : c.getDeclaredFields()) {
            if (Modifier.isStatic(f.getModifiers())) {
                must(Modifier.isFinal(f.getModifiers()), f + " is static and not final");
            } else {
                fields++;
            }
        }
        must(fields <= 20, c + " has " + fields + " fields");
        for (Method m : c.getDeclaredMethods()) {
            must(m.getParameterCount() <= 7, m + " takes too many");
            must(!taken.contains(m.getName()), m + " bears the name of a public one");
        }
    }

    private static void source() throws java.io.IOException {
        String text = Files.readString(Path.of("src/main/java/TailPatches.java"), StandardCharsets.UTF_8);
        for (int i = 0; i < text.length(); i++) {
            must(text.charAt(i) == '\n' || text.charAt(i) >= 32 && text.charAt(i) < 127, "a sign at " + i);
        }
        String bare = text.replaceAll("(?s)/\\*.*?\\*/", "").replaceAll("//[^\n]*", "")
                .replaceAll("\"[^\"\n]*\"", "\"\"");
        for (String word : new String[] {"throw", "throws", "try", "catch", "finally", "synchronized", "assert",
            "import", "package", "protected", "volatile", "native", "float", "double", "System\\.out", "Object",
            "toString", "hashCode", "equals", "clone", "var", "goto"}) {
            must(!Pattern.compile("\\b" + word + "\\b").matcher(bare).find(), "the word " + word);
        }
        must(!bare.contains("->") && !bare.contains("::") && !bare.contains("@"), "a sign that is left out");
        must(!Pattern.compile("Exact\\b").matcher(bare).find(), "an exact function");
        Matcher library = Pattern.compile("\\b(Math|System|Arrays|Integer|Long|String)\\.(\\w+)").matcher(bare);
        Set<String> known = Set.of("Math.max", "Math.min", "Math.floorMod", "System.arraycopy");
        while (library.find()) {
            must(known.contains(library.group()), "the library's " + library.group());
        }
        longMethods(text);
    }

    private static void longMethods(String text) {
        String[] lines = text.split("\n");
        int from = -1;
        String head = "";
        for (int i = 0; i < lines.length; i++) {
            boolean opens = lines[i].matches("^(    |        )[A-Za-z].*\\) \\{$");
            if (opens && from < 0) {
                from = i;
                head = lines[i].replaceAll("\\S.*", "");
            } else if (from >= 0 && lines[i].equals(head + "}")) {
                must(i - from <= 60, "line " + (from + 1) + ": a method of " + (i - from) + " lines");
                from = -1;
            }
        }
    }

    /** Some states to be called in: empty, small, full, with a RUN that goes on. */
    private static TailPatches state(int which) {
        TailPatches x = new TailPatches();
        if (which == 0) {
            return x;
        }
        int n = which == 1 ? 5 : 64;
        int[] bytes = new int[n];
        for (int i = 0; i < n; i++) {
            bytes[i] = which == 3 ? i * i % 7 : i;
        }
        Calls.old(x, bytes);
        Calls.fresh(x, bytes);
        x.move(0, n / 2, n - n / 2);
        x.bar(3, which == 2 ? 1 : 0);
        x.make(0);
        x.turn(0, 1);
        Calls.bring(x, 2, bytes);
        x.apply(0);
        if (which == 3) {
            x.begin(0);
            x.write(3);
        }
        x.feed(-1, 1, 1 << 31, 0x73617920, 0x31202020);
        return x;
    }

    private static void neverThrows() throws ReflectiveOperationException {
        int[] few = {Integer.MIN_VALUE, -1, 0, 1, 2, 3, 63, 64, 65, 255, 256, 299, 300, Integer.MAX_VALUE};
        for (int which = 0; which < 4; which++) {
            for (Method m : TailPatches.class.getDeclaredMethods()) {
                int n = m.getParameterCount();
                if (!Modifier.isPublic(m.getModifiers())) {
                    continue;
                }
                TailPatches x = state(which);
                int all = (int) Math.pow(few.length, Math.min(n, 3));
                for (int k = 0; k < all; k++) {
                    Object[] args = new Object[n];
                    int rest = k;
                    for (int i = 0; i < n; i++) {
                        args[i] = few[rest % few.length];
                        rest /= few.length;
                    }
                    try {
                        m.invoke(x, args);
                    } catch (java.lang.reflect.InvocationTargetException e) {
                        must(false, m.getName() + java.util.Arrays.toString(args) + " threw " + e.getCause());
                        return;
                    }
                }
            }
        }
    }

    public static void main(String[] args) throws Exception {
        face();
        source();
        neverThrows();
        System.out.println(wrong == 0 ? "the rules are kept" : wrong + " rules are not kept");
        if (wrong != 0) {
            System.exit(1);
        }
    }
}
