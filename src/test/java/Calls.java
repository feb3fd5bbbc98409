import java.util.ArrayList;
import java.util.List;
import java.util.function.IntSupplier;
import java.util.function.Supplier;
import java.util.function.ToIntFunction;

/** What the tests of the promises have in common: rows of bytes onto the TAPE, answers held against what is due. */
final class Calls {
    private static int wrong = 0;
    private static int asked = 0;

    private Calls() { }

    static void due(String call, int got, int want) {
        asked++;
        if (got != want) {
            wrong++;
            System.out.println(call + " answered " + got + ", due is " + want);
        }
    }

    static void close() {
        System.out.println(asked + " answers looked at, " + wrong + " not as due");
        if (wrong != 0) {
            System.exit(1);
        }
    }

    /** The bytes are all that the TAPE has then. */
    static void tape(TailPatches x, int... bytes) {
        x.end(0);
        for (int i = 0; i < bytes.length; i += 20) {
            int[] five = new int[5];
            for (int k = 0; k < 20; k++) {
                five[k / 4] = five[k / 4] << 8 | (i + k < bytes.length ? bytes[i + k] : 0);
            }
            x.feed(five[0], five[1], five[2], five[3], five[4]);
        }
        x.end(bytes.length);
    }

    static int old(TailPatches x, int... bytes) {
        tape(x, bytes);
        return x.file(0);
    }

    static int fresh(TailPatches x, int... bytes) {
        tape(x, bytes);
        return x.file(1);
    }

    static TailPatches with(int[] old, int[] fresh) {
        TailPatches x = new TailPatches();
        old(x, old);
        fresh(x, fresh);
        return x;
    }

    static int bring(TailPatches x, int slot, int... bytes) {
        tape(x, bytes);
        return x.bring(slot);
    }

    /** The bytes ahead of the CHECK, brought, and sealed. */
    static void sealed(TailPatches x, int slot, int... bytes) {
        bring(x, slot, java.util.Arrays.copyOf(bytes, bytes.length + 2));
        x.seal(slot);
    }

    static int recipe(TailPatches x, int slot, String text) {
        tape(x, text.chars().toArray());
        return x.recipe(slot);
    }

    static int[] row(int... bytes) {
        return bytes;
    }

    static int[] text(String signs) {
        return signs.chars().toArray();
    }

    /** first, first + 1, .. */
    static int[] rising(int first, int n) {
        int[] bytes = new int[n];
        for (int i = 0; i < n; i++) {
            bytes[i] = first + i;
        }
        return bytes;
    }

    static void dueFile(String what, TailPatches x, int file, int... bytes) {
        due(what + ": size(" + file + ")", x.size(file), bytes.length);
        for (int i = 0; i < bytes.length; i++) {
            due(what + ": byteOf(" + file + ", " + i + ")", x.byteOf(file, i), bytes[i]);
        }
    }

    static void duePatch(String what, TailPatches x, int slot, int... bytes) {
        due(what + ": length(" + slot + ")", x.length(slot), bytes.length);
        for (int i = 0; i < bytes.length; i++) {
            due(what + ": patch(" + slot + ", " + i + ")", x.patch(slot, i), bytes[i]);
        }
    }

    static void dueParts(String what, TailPatches x, int slot, int[]... parts) {
        due(what + ": parts(" + slot + ")", x.parts(slot), parts.length);
        for (int i = 0; i < parts.length; i++) {
            for (int k = 0; k < 3; k++) {
                due(what + ": part(" + slot + ", " + i + ", " + k + ")", x.part(slot, i, k), parts[i][k]);
            }
        }
    }

    static void dueListing(String what, TailPatches x, int slot, String text) {
        due(what + ": listed(" + slot + ")", x.listed(slot), text.length());
        for (int i = 0; i < text.length(); i++) {
            due(what + ": listing(" + slot + ", " + i + ")", x.listing(slot, i), text.charAt(i));
        }
        due(what + ": the sign behind the last", x.listing(slot, text.length()), -1);
    }

    /** REFUSED: the answer, the status, one more in its count, nothing to undo that was not there. */
    static void refused(String what, TailPatches x, int got, int by, int countAhead) {
        due(what, got, by);
        due(what + ": status()", x.status(), by);
        due(what + ": count of these", x.count(6 - by), countAhead + 1);
    }

    /** What is told of FILES, SLOTS, what is BARRED, acts to undo, TERMS, the RUN, the latest apply(). */
    static List<Integer> standing(TailPatches x) {
        List<Integer> all = new ArrayList<>();
        for (int which = 0; which < 3; which++) {
            int size = x.size(which);
            int length = x.length(which);
            all.add(size);
            all.add(length);
            for (int i = 0; i < size; i++) {
                all.add(x.byteOf(which, i));
            }
            for (int i = 0; i < length; i++) {
                all.add(x.patch(which, i));
            }
        }
        for (int k = 0; k < x.size(0); k++) {
            all.add(x.sorted(k, 0));
        }
        for (int what : new int[] {3, 5, 13, 14, 15, 16, 17}) {
            all.add(x.count(what));
        }
        all.add(x.left());
        all.add(x.loaded(0));
        all.add(x.loaded(1));
        return all;
    }

    /** The call is REFUSED by that, which is told and counted, and all stands as it was. */
    static void stays(String what, TailPatches x, IntSupplier call, int by) {
        List<Integer> ahead = standing(x);
        int[] counts = new int[6];
        for (int i = 0; i < 6; i++) {
            counts[i] = x.count(7 + i);
        }
        due(what, call.getAsInt(), by);
        due(what + ": status()", x.status(), by);
        for (int i = 0; i < 6; i++) {
            due(what + ": count(" + (7 + i) + ")", x.count(7 + i), counts[i] + (i == -1 - by ? 1 : 0));
        }
        due(what + ": all stands as it was", standing(x).equals(ahead) ? 1 : 0, 1);
    }

    /** The same of an object that is made for it alone. */
    static void stays(String what, Supplier<TailPatches> made, ToIntFunction<TailPatches> call, int by) {
        TailPatches x = made.get();
        stays(what, x, () -> call.applyAsInt(x), by);
    }

    static int check(int... row) {
        int check = 1;
        for (int b : row) {
            check = (3 * check + b) % 257;
        }
        return check;
    }

    static int[] filled(int value, int n) {
        int[] row = new int[n];
        java.util.Arrays.fill(row, value);
        return row;
    }

    /** The same text n times, a sign between. */
    static String many(int n, String text, String between) {
        StringBuilder all = new StringBuilder();
        for (int i = 0; i < n; i++) {
            all.append(i == 0 ? "" : between).append(text);
        }
        return all.toString();
    }

    /** Of each ANCHOR its SPOT, PLACE, length, FORWARD, BACK; there are no others. */
    static void dueAnchors(String what, TailPatches x, int[]... want) {
        due(what + ": count(0)", x.count(0), want.length);
        for (int i = 0; i < want.length; i++) {
            for (int k = 0; k < 5; k++) {
                due(what + ": anchor(" + i + ", " + k + ")", x.anchor(i, k), want[i][k]);
            }
        }
        due(what + ": no ANCHOR behind the last", x.anchor(want.length, 0), -1);
    }

    /** The PLACES that SPOTS are from, -1 for EXTRA ones. */
    static void duePlaces(String what, TailPatches x, int... want) {
        due(what + ": size(1)", x.size(1), want.length);
        for (int i = 0; i < want.length; i++) {
            due(what + ": origin(" + i + ", 0)", x.origin(i, 0), want[i]);
        }
    }

    /** SORTED: the PLACES of the TAILS, and no others. */
    static void dueSorted(String what, TailPatches x, int... want) {
        for (int k = 0; k < want.length; k++) {
            due(what + ": sorted(" + k + ", 0)", x.sorted(k, 0), want[k]);
        }
        due(what + ": none behind the last", x.sorted(want.length, 0), -1);
    }

    /** MATCH of a SPOT: how many BYTES, the PLACE, how many TAILS. */
    static void dueMatch(String what, TailPatches x, int spot, int size, int place, int tails) {
        due(what + ": match(" + spot + ", 0)", x.match(spot, 0), size);
        due(what + ": match(" + spot + ", 1)", x.match(spot, 1), place);
        due(what + ": match(" + spot + ", 2)", x.match(spot, 2), tails);
    }

    /** The BYTES of a PATCH from an INDEX on. */
    static void dueBytes(String what, TailPatches x, int slot, int index, int... want) {
        for (int i = 0; i < want.length; i++) {
            due(what + ": patch(" + slot + ", " + (index + i) + ")", x.patch(slot, index + i), want[i]);
        }
    }

    /** OUT, when the PATCH is APPLIED. */
    static void dueOut(String what, TailPatches x, int slot, int... want) {
        due(what + ": apply(" + slot + ")", x.apply(slot), want.length);
        dueFile(what, x, 2, want);
    }
}
