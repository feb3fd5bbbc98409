/** What the tests of the promises have in common: rows of bytes onto the TAPE, answers held against what is due. */
final class Calls {
    private static int wrong = 0;
    private static int asked = 0;

    private Calls() { }

    static void due(String call, int got, int want) {
        asked++;
        if (got != want) {
            wrong++;
            System.out.println(call + " answered " + got + ", due is " + want);
        }
    }

    static void close() {
        System.out.println(asked + " answers looked at, " + wrong + " not as due");
        if (wrong != 0) {
            System.exit(1);
        }
    }

    /** The bytes are all that the TAPE has then. */
    static void tape(TailPatches x, int... bytes) {
        x.end(0);
        for (int i = 0; i < bytes.length; i += 20) {
            int[] five = new int[5];
            for (int k = 0; k < 20; k++) {
                five[k / 4] = five[k / 4] << 8 | (i + k < bytes.length ? bytes[i + k] : 0);
            }
            x.feed(five[0], five[1], five[2], five[3], five[4]);
        }
        x.end(bytes.length);
    }

    static int old(TailPatches x, int... bytes) {
        tape(x, bytes);
        return x.file(0);
    }

    static int fresh(TailPatches x, int... bytes) {
        tape(x, bytes);
        return x.file(1);
    }

    static TailPatches with(int[] old, int[] fresh) {
        TailPatches x = new TailPatches();
        old(x, old);
        fresh(x, fresh);
        return x;
    }

    static int bring(TailPatches x, int slot, int... bytes) {
        tape(x, bytes);
        return x.bring(slot);
    }

    /** The bytes ahead of the CHECK, brought, and sealed. */
    static void sealed(TailPatches x, int slot, int... bytes) {
        bring(x, slot, java.util.Arrays.copyOf(bytes, bytes.length + 2));
        x.seal(slot);
    }

    static int recipe(TailPatches x, int slot, String text) {
        tape(x, text.chars().toArray());
        return x.recipe(slot);
    }

    static int[] row(int... bytes) {
        return bytes;
    }

    static int[] text(String signs) {
        return signs.chars().toArray();
    }

    /** first, first + 1, .. */
    static int[] rising(int first, int n) {
        int[] bytes = new int[n];
        for (int i = 0; i < n; i++) {
            bytes[i] = first + i;
        }
        return bytes;
    }

    static void dueFile(String what, TailPatches x, int file, int... bytes) {
        due(what + ": size(" + file + ")", x.size(file), bytes.length);
        for (int i = 0; i < bytes.length; i++) {
            due(what + ": byteOf(" + file + ", " + i + ")", x.byteOf(file, i), bytes[i]);
        }
    }

    static void duePatch(String what, TailPatches x, int slot, int... bytes) {
        due(what + ": length(" + slot + ")", x.length(slot), bytes.length);
        for (int i = 0; i < bytes.length; i++) {
            due(what + ": patch(" + slot + ", " + i + ")", x.patch(slot, i), bytes[i]);
        }
    }

    static void dueParts(String what, TailPatches x, int slot, int[]... parts) {
        due(what + ": parts(" + slot + ")", x.parts(slot), parts.length);
        for (int i = 0; i < parts.length; i++) {
            for (int k = 0; k < 3; k++) {
                due(what + ": part(" + slot + ", " + i + ", " + k + ")", x.part(slot, i, k), parts[i][k]);
            }
        }
    }

    static void dueListing(String what, TailPatches x, int slot, String text) {
        due(what + ": listed(" + slot + ")", x.listed(slot), text.length());
        for (int i = 0; i < text.length(); i++) {
            due(what + ": listing(" + slot + ", " + i + ")", x.listing(slot, i), text.charAt(i));
        }
        due(what + ": the sign behind the last", x.listing(slot, text.length()), -1);
    }

    /** REFUSED: the answer, the status, one more in its count, nothing to undo that was not there. */
    static void refused(String what, TailPatches x, int got, int by, int countAhead) {
        due(what, got, by);
        due(what + ": status()", x.status(), by);
        due(what + ": count of these", x.count(6 - by), countAhead + 1);
    }
}
