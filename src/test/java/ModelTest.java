import java.lang.reflect.Method;
import java.util.ArrayList;
import java.util.HashMap;
import java.util.List;
import java.util.Map;
import java.util.Random;

/**
 * Runs of calls drawn by fixed seeds, each call made on TailPatches and on the Model: their answers
 * must be the same. Arguments: how many runs, the first seed.
 */
public final class ModelTest {
    private static final int CALLS = 512;
    private static final Map<String, Method> REAL = methods(TailPatches.class);
    private static final Map<String, Method> MODEL = methods(Model.class);

    private final Random random;
    private final TailPatches real = new TailPatches();
    private final Model model = new Model();
    private final List<String> log = new ArrayList<>();
    private final int letters;
    private final int mostBytes;
    private boolean wrong = false;

    private ModelTest(long seed) {
        random = new Random(seed);
        letters = new int[] {1, 2, 2, 3, 4, 20, 256}[random.nextInt(7)];
        mostBytes = new int[] {4, 8, 12, 20, 40, 64, 66}[random.nextInt(7)];
    }

    private static Map<String, Method> methods(Class<?> type) {
        Map<String, Method> map = new HashMap<>();
        for (Method m : type.getDeclaredMethods()) {
            if (java.lang.reflect.Modifier.isPublic(m.getModifiers())) {
                m.setAccessible(true);
                map.put(m.getName(), m);
            }
        }
        return map;
    }

    private int call(String name, int... args) {
        if (wrong || log.size() >= CALLS) {
            return -1;
        }
        Object[] boxed = new Object[args.length];
        StringBuilder text = new StringBuilder(name).append("(");
        for (int i = 0; i < args.length; i++) {
            boxed[i] = args[i];
            text.append(i == 0 ? "" : ", ").append(args[i]);
        }
        text.append(")");
        try {
            int want = (Integer) MODEL.get(name).invoke(model, boxed);
            Object got;
            try {
                got = REAL.get(name).invoke(real, boxed);
            } catch (java.lang.reflect.InvocationTargetException e) {
                got = e.getCause().toString();
            }
            log.add(text + " = " + got);
            if (!got.equals(want)) {
                wrong = true;
                log.add("    the model answers " + want);
            }
            return want;
        } catch (ReflectiveOperationException e) {
            throw new IllegalStateException(text.toString(), e);
        }
    }

    private int near(int most) {
        return random.nextInt(20) == 0 ? odd() : random.nextInt(most + 1);
    }

    private int odd() {
        int[] odd = {-1, -2, 3, 64, 65, 300, Integer.MAX_VALUE, Integer.MIN_VALUE, 256, 255, 1 << 30};
        return odd[random.nextInt(odd.length)];
    }

    private int letter() {
        return letters == 256 ? random.nextInt(256) : random.nextInt(letters) * 37 % 256;
    }

    private void feedAll(int[] bytes) {
        if (random.nextInt(30) != 0) {
            call("end", 0);
        }
        for (int i = 0; i < bytes.length; i += 20) {
            int[] five = new int[5];
            for (int k = 0; k < 20; k++) {
                int b = i + k < bytes.length ? bytes[i + k] : 32;
                five[k / 4] = five[k / 4] << 8 | b;
            }
            call("feed", five);
        }
        call("end", bytes.length);
    }

    private int[] drawFile() {
        int[] bytes = new int[random.nextInt(15) == 0 ? 0 : random.nextInt(mostBytes + 1)];
        for (int i = 0; i < bytes.length; i++) {
            bytes[i] = letter();
        }
        return bytes;
    }

    private int[] drawEdited(int[] from) {
        List<Integer> list = new ArrayList<>();
        int pieces = 1 + random.nextInt(5);
        for (int k = 0; k < pieces && from.length > 0; k++) {
            int first = random.nextInt(from.length);
            int n = random.nextInt(Math.min(from.length - first, 1 + mostBytes / 2) + 1);
            for (int i = first; i < first + n; i++) {
                list.add(random.nextInt(8) == 0 ? letter() : from[i]);
            }
            for (int i = random.nextInt(4); i > 0; i--) {
                list.add(letter());
            }
        }
        while (list.size() > mostBytes) {
            list.remove(list.size() - 1);
        }
        return Model.ints(list);
    }

    /** Two pieces of OLD or more, and between them bytes of the one's way or the other's. */
    private int[] drawTorn(int[] from) {
        List<Integer> list = new ArrayList<>();
        int pieces = 2 + random.nextInt(3);
        int behind = 0;
        for (int k = 0; k < pieces && from.length > 8; k++) {
            int first = random.nextInt(from.length - 3);
            int gap = k == 0 ? random.nextInt(2) : 1 + random.nextInt(9);
            for (int i = 0; i < gap; i++) {
                int here = random.nextBoolean() ? behind + i : first - gap + i;
                boolean there = here >= 0 && here < from.length && random.nextInt(6) > 0;
                list.add(there ? from[here] : letter());
            }
            int n = Math.min(from.length - first, 2 + random.nextInt(5));
            for (int i = first; i < first + n; i++) {
                list.add(from[i]);
            }
            behind = first + n;
        }
        return Model.ints(list.subList(0, Math.min(list.size(), 64)));
    }

    private void makeTorn() {
        int[] old = new int[20 + random.nextInt(45)];
        for (int i = 0; i < old.length; i++) {
            old[i] = random.nextInt(3) == 0 ? letter() : random.nextInt(200);
        }
        feedAll(old);
        call("file", 0);
        feedAll(drawTorn(old));
        call("file", 1);
        if (random.nextBoolean()) {
            call("terms", 0, 2 + random.nextInt(3));
            call("terms", 1, random.nextInt(3));
            call("terms", 2, 1 + random.nextInt(9));
            call("terms", 3, random.nextInt(4));
        }
        if (random.nextInt(3) == 0) {
            call("bar", random.nextInt(old.length), 1);
        }
        for (int i = 0; i < 5; i++) {
            for (int what = 0; what < 5; what++) {
                call("anchor", i, what);
            }
        }
        call("make", random.nextInt(3));
        call("cheapest", 1);
        call("best", 0);
    }

    private void drawAndFile() {
        int which = random.nextInt(2);
        int[] other = model.files[1 - which];
        feedAll(random.nextInt(4) == 0 ? drawFile() : drawEdited(other.length == 0 ? drawFile() : other));
        call("file", random.nextInt(30) == 0 ? odd() : which);
    }

    private int small(int most) {
        return random.nextInt(12) == 0 ? random.nextInt(300) : random.nextInt(most + 1);
    }

    private void number(List<Integer> to, int n) {
        if (n >= 128 || random.nextInt(15) == 0) {
            to.add(128 + n % 128);
            to.add(n / 128 + (random.nextInt(60) == 0 ? 128 : 0));
        } else {
            to.add(n);
        }
    }

    /** A patch that is mostly right, drawn part by part. */
    private int[] drawPatch() {
        int[] old = model.files[0];
        List<Integer> to = new ArrayList<>();
        number(to, random.nextInt(10) == 0 ? small(64) : old.length);
        number(to, random.nextInt(10) == 0 ? small(256) : Model.check(old));
        int parts = random.nextInt(6);
        List<int[]> drawn = new ArrayList<>();
        int behind = 0;
        int copied = 0;
        int extras = 0;
        for (int i = 0; i < parts; i++) {
            int first = random.nextInt(old.length + 1);
            int copy = random.nextInt(Math.min(old.length - first, 9) + 1);
            int extra = random.nextInt(4);
            if (random.nextInt(40) == 0) {
                copy += random.nextInt(3);
            }
            int seek = first - behind;
            drawn.add(new int[] {seek < 0 ? -2 * seek - 1 : 2 * seek, copy, extra});
            behind = first + copy;
            copied += copy;
            extras += extra;
        }
        number(to, random.nextInt(20) == 0 ? small(64) : copied + extras);
        List<Integer> differences = drawRow(copied);
        List<Integer> others = drawRow(extras);
        number(to, random.nextInt(3) == 0 ? small(256) : drawnCheck(drawn, differences, others));
        number(to, random.nextInt(40) == 0 ? parts + 1 : parts);
        for (int[] part : drawn) {
            for (int n : part) {
                number(to, n);
            }
        }
        packAnyWay(to, differences);
        packAnyWay(to, others);
        if (random.nextInt(30) == 0) {
            to.add(0);
        }
        if (random.nextInt(30) == 0) {
            to.remove(to.size() - 1);
        }
        to.add(0);
        to.add(0);
        while (to.size() > 300) {
            to.remove(2);
        }
        return Model.sealed(Model.ints(to));
    }

    private int drawnCheck(List<int[]> parts, List<Integer> differences, List<Integer> others) {
        int[] old = model.files[0];
        List<Integer> out = new ArrayList<>();
        int behind = 0;
        int d = 0;
        int e = 0;
        for (int[] part : parts) {
            behind += part[0] % 2 == 0 ? part[0] / 2 : -(part[0] + 1) / 2;
            for (int k = 0; k < part[1]; k++) {
                out.add(((behind < old.length ? old[behind] : 0) + differences.get(d++)) % 256);
                behind++;
            }
            for (int k = 0; k < part[2]; k++) {
                out.add(others.get(e++));
            }
        }
        return Model.check(Model.ints(out));
    }

    private List<Integer> drawRow(int n) {
        List<Integer> row = new ArrayList<>();
        int kind = random.nextInt(3);
        int latest = letter();
        for (int i = 0; i < n; i++) {
            if (kind == 0) {
                row.add(random.nextInt(3) == 0 ? letter() : 0);
            } else {
                latest = kind == 1 || random.nextInt(4) == 0 ? letter() : latest;
                row.add(latest);
            }
        }
        return row;
    }

    private void packAnyWay(List<Integer> to, List<Integer> row) {
        int way = random.nextInt(3);
        number(to, random.nextInt(60) == 0 ? 3 : way);
        int at = 0;
        while (at < row.size()) {
            int n = 1 + random.nextInt(3);
            int same = 0;
            while (at + same < row.size() && row.get(at + same).equals(row.get(at))
                    && (same == 0 || random.nextInt(5) > 0)) {
                same++;
            }
            if (way == 0) {
                to.add(row.get(at++));
            } else if (way == 1) {
                int zeros = row.get(at) == 0 ? same : 0;
                number(to, zeros);
                at += zeros;
                n = Math.min(n, row.size() - at);
                if (at < row.size()) {
                    number(to, random.nextInt(60) == 0 ? random.nextInt(3) * 40 : n);
                    for (int i = 0; i < n; i++) {
                        to.add(row.get(at++));
                    }
                }
            } else {
                number(to, random.nextInt(60) == 0 ? random.nextInt(3) * 40 : same);
                to.add(row.get(at));
                at += same;
            }
        }
    }

    private void drawAndBring() {
        int slot = near(2);
        int[] there = model.slots[random.nextInt(3)];
        int kind = random.nextInt(10);
        int[] bytes;
        if (kind < 6) {
            bytes = drawPatch();
        } else if (kind < 9 && there != null) {
            bytes = there.clone();
            int changes = random.nextInt(3);
            for (int i = 0; i < changes; i++) {
                bytes[random.nextInt(bytes.length)] = small(10) % 256;
            }
            bytes = random.nextBoolean() && bytes.length >= 2 ? Model.sealed(bytes) : bytes;
        } else {
            bytes = new int[random.nextInt(random.nextInt(3) == 0 ? 310 : 12)];
            for (int i = 0; i < bytes.length; i++) {
                bytes[i] = small(6) % 256;
            }
            bytes = bytes.length >= 2 ? Model.sealed(bytes) : bytes;
        }
        feedAll(bytes);
        call("bring", slot);
        if (random.nextInt(3) == 0) {
            call("seal", slot);
        }
    }

    private String limit(int least, int most) {
        int kind = random.nextInt(80);
        int n = kind == 0 ? least - 1 : kind == 1 ? most + 1 : kind == 2 ? most
                : least + random.nextInt(Math.min(most - least + 1, 10));
        return (random.nextInt(40) == 0 ? "00" : "") + Math.max(n, 0);
    }

    private String gap() {
        return random.nextInt(20) == 0 ? "" : random.nextInt(20) == 0 ? "  " : " ";
    }

    private String drawStep(int depth) {
        switch (random.nextInt(depth < 4 || random.nextInt(10) == 0 ? 7 : 6)) {
            case 0:
            case 1:
                return "take" + gap() + limit(1, 64) + gap() + "at" + gap() + limit(0, 63)
                        + (random.nextBoolean() ? "" : gap() + "by" + gap() + limit(0, 255));
            case 2:
                return "fill" + gap() + limit(1, 64) + gap() + "with" + gap() + limit(0, 255);
            case 3: {
                StringBuilder said = new StringBuilder("say" + gap() + limit(0, 255));
                while (random.nextInt(3) > 0) {
                    said.append(gap().isEmpty() ? " , " : ",").append(limit(0, 255));
                }
                return said.toString();
            }
            case 4:
            case 5:
                return "again" + gap() + limit(1, 64) + gap() + "back" + gap() + limit(1, 64);
            default:
                return "times" + gap() + limit(1, 9) + gap() + "(" + drawRecipe(depth + 1) + ")";
        }
    }

    private String drawRecipe(int depth) {
        StringBuilder text = new StringBuilder(drawStep(depth));
        while (random.nextInt(3) > 0) {
            text.append(gap().equals("  ") ? " ;" : ";").append(drawStep(depth));
        }
        return text.toString();
    }

    private void drawAndRecipe() {
        StringBuilder text = new StringBuilder(drawRecipe(0));
        int changes = random.nextInt(4) == 0 ? 1 + random.nextInt(2) : 0;
        for (int i = 0; i < changes && text.length() > 0; i++) {
            int at = random.nextInt(text.length());
            String signs = "take;(),by 019x\u00e9T";
            switch (random.nextInt(3)) {
                case 0:
                    text.deleteCharAt(at);
                    break;
                case 1:
                    text.insert(at, signs.charAt(random.nextInt(signs.length())));
                    break;
                default:
                    text.setCharAt(at, signs.charAt(random.nextInt(signs.length())));
                    break;
            }
        }
        if (text.length() > 400) {
            text.setLength(400);
        }
        feedAll(text.chars().toArray());
        call("recipe", near(2));
        call("fault");
        call("stopped");
    }

    private void drawTerms() {
        int what = near(4);
        call("terms", what, near(9));
    }

    private void actOnNew() {
        int size = model.files[1].length;
        switch (random.nextInt(4)) {
            case 0:
                call("set", near(size), random.nextInt(15) == 0 ? odd() : letter());
                break;
            case 1:
                call("cut", near(size), near(4));
                break;
            case 2:
                call("put", near(size + 1), random.nextInt(15) == 0 ? odd() : letter());
                break;
            default:
                call("move", near(size), near(size), near(size));
                break;
        }
    }

    private void drawAct() {
        int slot = near(2);
        switch (random.nextInt(22)) {
            case 0:
            case 1:
                drawAndFile();
                break;
            case 2:
            case 3:
                drawAndBring();
                break;
            case 4:
            case 5:
                drawAndRecipe();
                break;
            case 6:
                drawTerms();
                break;
            case 7:
                call("bar", near(Math.max(model.files[0].length, 3)), random.nextInt(20) == 0 ? 2 : random.nextInt(2));
                break;
            case 8:
            case 9:
                actOnNew();
                break;
            case 10:
                call("make", slot);
                break;
            case 11:
                call("join", slot, near(2), near(2));
                call("flaw");
                break;
            case 12:
                call("turn", slot, near(2));
                call("flaw");
                break;
            case 13:
                call("apply", slot);
                call("loaded", 0);
                call("loaded", 1);
                break;
            case 14:
            case 15:
                call("begin", slot);
                call("flaw");
                break;
            case 16:
                call("write", near(random.nextBoolean() ? 3 : 70));
                call("left");
                break;
            case 17:
                call("spoil", slot, near(length(slot)), random.nextInt(15) == 0 ? odd() : random.nextInt(256));
                break;
            case 18:
                call(random.nextBoolean() ? "seal" : "drop", slot);
                break;
            case 19:
                call(random.nextBoolean() ? "swap" : "advance");
                break;
            default:
                for (int n = random.nextInt(random.nextInt(3) == 0 ? 9 : 2); n >= 0; n--) {
                    call("undo");
                }
                break;
        }
        call("status");
    }

    /** Calls that make sense one behind another: alone they seldom would come so. */
    private void story() {
        int a = random.nextInt(3);
        int b = random.nextInt(3);
        switch (random.nextInt(6)) {
            case 5:
                makeTorn();
                break;
            case 0:
                makeOrRecipe(a);
                call("apply", a);
                call("advance");
                makeOrRecipe(b);
                call("join", a, b, random.nextInt(3));
                askPatch(b);
                break;
            case 1:
                makeOrRecipe(a);
                call("turn", a, b);
                askPatch(b);
                call("join", a, b, random.nextInt(3));
                break;
            case 2:
                makeOrRecipe(a);
                runThrough(a);
                break;
            case 3:
                makeOrRecipe(a);
                call("apply", a);
                call("loaded", 0);
                call("loaded", 1);
                askPatch(a);
                break;
            default:
                makeOrRecipe(a);
                call("spoil", a, random.nextInt(length(a)), random.nextInt(256));
                call("save", a, 0);
                call("save", a, 1);
                call("save", a, 2);
                break;
        }
    }

    private void makeOrRecipe(int slot) {
        if (random.nextInt(3) > 0) {
            call("make", slot);
            return;
        }
        for (int i = 0; i < 6 && model.slots[slot] == null; i++) {
            feedAll(drawRecipe(0).chars().limit(400).toArray());
            call("recipe", slot);
        }
    }

    private void runThrough(int slot) {
        call("begin", slot);
        for (int i = random.nextInt(12); i >= 0 && model.run != null; i--) {
            call("write", 1 + random.nextInt(4));
            int place = random.nextInt(model.files[0].length + 1);
            call("byteOf", 0, place);
            if (random.nextInt(6) == 0) {
                call("undo");
            }
            if (random.nextInt(12) == 0) {
                drawAct();
            }
        }
        if (random.nextInt(3) > 0) {
            call("write", 64);
        }
        for (int place = 0; place < model.files[0].length; place++) {
            call("byteOf", 0, place);
        }
    }

    private int length(int slot) {
        return slot >= 0 && slot <= 2 && model.slots[slot] != null ? model.slots[slot].length : 3;
    }

    private void askNew() {
        int spot = near(Math.max(model.files[1].length, 1));
        int place = near(Math.max(model.files[0].length, 1));
        for (int what = 0; what < 3; what++) {
            call("sorted", place, what);
            call("match", spot, what);
        }
        call("sorted", place, near(4));
        call("match", spot, near(4));
        call("kinds", near(6));
        call("repeated", 0);
        call("repeated", 1);
        call("repeated", near(3));
        int anchor = random.nextInt(3);
        for (int what = 0; what < 5; what++) {
            call("anchor", anchor, what);
        }
        call("anchor", near(8), near(5));
        call("origin", spot, 0);
        call("origin", spot, 1);
        call("origin", spot, near(3));
        call("cheapest", near(2));
        call("cheapest", 0);
        call("apart");
        call("best", near(2));
        call("count", near(18));
        call("count", random.nextInt(7));
    }

    private void askPatch(int slot) {
        call("flawOf", slot);
        call("length", slot);
        call("patch", slot, near(length(slot)));
        call("parts", slot);
        int part = random.nextInt(4);
        for (int what = 0; what < 3; what++) {
            call("part", slot, part, what);
        }
        call("part", slot, near(6), near(3));
        call("way", slot, 0);
        call("way", slot, near(2));
        call("order", slot, 0);
        call("order", slot, near(5));
        call("dropped", slot, 0);
        call("dropped", slot, near(2));
        call("stay", slot);
        call("save", slot, near(3));
        call("listed", slot);
        call("listing", slot, near(60));
        call("listing", slot, near(20));
    }

    private void askFiles() {
        for (int file = 0; file < 3; file++) {
            call("size", file);
            call("byteOf", file, near(Math.max(model.files[file].length, 1)));
        }
        call("size", near(3));
        call("byteOf", near(3), near(10));
        call("left");
        call("flaw");
    }

    private void go() {
        for (int i = 0; i < 3; i++) {
            drawAndFile();
        }
        while (log.size() < CALLS && !wrong) {
            if (random.nextInt(4) == 0) {
                story();
            } else {
                drawAct();
            }
            switch (random.nextInt(6)) {
                case 0:
                    askNew();
                    break;
                case 1:
                    askPatch(near(2));
                    break;
                case 2:
                    askFiles();
                    break;
                default:
                    break;
            }
        }
    }

    public static void main(String[] args) {
        int runs = args.length > 0 ? Integer.parseInt(args[0]) : 600;
        long seed = args.length > 1 ? Long.parseLong(args[1]) : 1;
        Map<String, Integer> answers = new java.util.TreeMap<>();
        for (int i = 0; i < runs; i++) {
            ModelTest test = new ModelTest(seed + i);
            test.go();
            if (test.wrong) {
                test.log.forEach(System.out::println);
                System.out.println("seed " + (seed + i) + ": the answers differ");
                System.exit(1);
            }
            for (String line : test.log) {
                String name = line.substring(0, line.indexOf('('));
                String answer = line.substring(line.indexOf("= ") + 2);
                answers.merge(name + (answer.startsWith("-") ? " " + answer : " fine"), 1, Integer::sum);
            }
        }
        if (args.length > 2) {
            answers.forEach((k, v) -> System.out.println(k + ": " + v));
        }
        System.out.println(runs + " runs answered as the model does");
    }
}
