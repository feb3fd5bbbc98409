import java.util.List;
import java.util.function.IntSupplier;

/** Promises 34 to 54: each sentence that tells where something ends has a test of its own, in the document's order. */
public final class LastPromisesBoundsTest {
    private static final int[] ODD = {Integer.MIN_VALUE, -2, -1, 3, 5, 64, 65, Integer.MAX_VALUE};
    private static final int[] NO_SLOTS = {Integer.MIN_VALUE, -1, 1, 3, Integer.MAX_VALUE};

    private static void due(String call, int got, int want) {
        Calls.due(call, got, want);
    }

    // ---- what is told of TAILS ----

    /** 34: "its PLACE (what 0), how many BYTES it has (1), how many of its first are ALIKE .. (2; 0 for the first)" */
    private static void promise34() {
        TailPatches x = Calls.with(Calls.row(7, 7, 8, 7), Calls.row());
        // 7 / 7 7 8 7 / 7 8 7 / 8 7
        int[][] want = {{3, 1, 0}, {0, 4, 1}, {1, 3, 1}, {2, 2, 0}};
        for (int k = 0; k < 4; k++) {
            for (int what = 0; what < 3; what++) {
                due("34 sorted(" + k + ", " + what + ")", x.sorted(k, what), want[k][what]);
            }
        }
        x = Calls.with(Calls.filled(255, 64), Calls.row());
        due("34 the first of 64", x.sorted(0, 0), 63);
        due("34 the last of 64", x.sorted(63, 0), 0);
        due("34 its size", x.sorted(63, 1), 64);
        due("34 ALIKE", x.sorted(63, 2), 63);
    }

    /** 34: "NONE." */
    private static void promise34none() {
        TailPatches x = Calls.with(Calls.row(1, 2, 3), Calls.row());
        for (int odd : ODD) {
            due("34 sorted(" + odd + ", 0)", x.sorted(odd, 0), -1);
            due("34 sorted(0, " + odd + ")", x.sorted(0, odd), -1);
        }
        x.bar(0, 1);
        due("34 behind the last, one BARRED", x.sorted(2, 0), -1);
        x = new TailPatches();
        for (int what = 0; what < 3; what++) {
            due("34 OLD is empty", x.sorted(0, what), -1);
        }
    }

    /** 35: "With how many different rows of n BYTES (1 .. 64) TAILS begin." */
    private static void promise35() {
        TailPatches x = Calls.with(Calls.row(1, 2, 1, 2, 3), Calls.row());
        int[] want = {3, 3, 3, 2, 1, 0};
        for (int n = 1; n <= 6; n++) {
            due("35 kinds(" + n + ")", x.kinds(n), want[n - 1]);
        }
        due("35 kinds(64)", x.kinds(64), 0);
        x.bar(1, 1);
        due("35 BARRED", x.kinds(1), 3);
        due("35 BARRED", x.kinds(2), 2);
        x = Calls.with(new int[64], Calls.row());
        for (int n = 1; n <= 64; n++) {
            due("35 all the same: kinds(" + n + ")", x.kinds(n), 1);
        }
        x = Calls.with(Calls.rising(0, 64), Calls.row());
        for (int n = 1; n <= 64; n++) {
            due("35 none the same: kinds(" + n + ")", x.kinds(n), 65 - n);
        }
        due("35 OLD is empty", new TailPatches().kinds(1), 0);
    }

    /** 35: "NONE." */
    private static void promise35none() {
        TailPatches x = Calls.with(Calls.rising(0, 64), Calls.row());
        for (int n : new int[] {Integer.MIN_VALUE, -1, 0, 65, Integer.MAX_VALUE}) {
            due("35 kinds(" + n + ")", x.kinds(n), -1);
        }
    }

    /** 36: "how many (what 0), the lowest PLACE of which a TAIL begins with such a one (1; NONE, if it has 0)" */
    private static void promise36() {
        TailPatches x = Calls.with(Calls.row(9, 1, 2, 1, 2, 8, 3, 4, 3, 4), Calls.row());
        due("36 two BYTES", x.repeated(0), 2);
        due("36 the lowest of four PLACES", x.repeated(1), 1);
        x.bar(1, 1);
        due("36 the other row", x.repeated(0), 2);
        due("36 the other row", x.repeated(1), 6);
        Calls.old(x, new int[64]);
        due("36 within one another, from PLACE 2 on", x.repeated(0), 61);
        due("36 the lowest", x.repeated(1), 2);
        Calls.old(x, 1, 2, 3);
        due("36 none", x.repeated(0), 0);
        due("36 nowhere", x.repeated(1), -1);
        x = new TailPatches();
        due("36 OLD is empty", x.repeated(0), 0);
        due("36 OLD is empty", x.repeated(1), -1);
        Calls.old(x, 5);
        due("36 one TAIL", x.repeated(0), 0);
        Calls.old(x, 5, 5);
        due("36 two TAILS", x.repeated(0), 1);
        due("36 two TAILS", x.repeated(1), 0);
    }

    /** 36: "NONE (others)." */
    private static void promise36none() {
        TailPatches x = Calls.with(Calls.row(5, 5), Calls.row());
        for (int what : new int[] {Integer.MIN_VALUE, -1, 2, Integer.MAX_VALUE}) {
            due("36 repeated(" + what + ")", x.repeated(what), -1);
        }
    }

    /** 37: "how many BYTES (what 0), the PLACE (1; NONE), how many TAILS begin so (2; 0, if it has 0)" */
    private static void promise37() {
        TailPatches x = Calls.with(Calls.row(1, 2, 1, 2), Calls.row(1, 2, 3, 2));
        Calls.dueMatch("37", x, 0, 2, 0, 2);
        Calls.dueMatch("37", x, 1, 1, 1, 2);
        Calls.dueMatch("37 none", x, 2, 0, -1, 0);
        Calls.dueMatch("37 the last", x, 3, 1, 1, 2);
        x = Calls.with(Calls.filled(6, 64), Calls.filled(6, 64));
        Calls.dueMatch("37 all", x, 0, 64, 0, 1);
        Calls.dueMatch("37 one", x, 63, 1, 0, 64);
    }

    /** 37: "NONE (no such SPOT; others)." */
    private static void promise37none() {
        TailPatches x = Calls.with(Calls.row(1, 2, 1, 2), Calls.row(1, 2, 3));
        for (int odd : ODD) {
            due("37 match(" + odd + ", 0)", x.match(odd, 0), -1);
            due("37 match(" + odd + ", 1)", x.match(odd, 1), -1);
            due("37 match(" + odd + ", 2)", x.match(odd, 2), -1);
            due("37 match(0, " + odd + ")", x.match(0, odd), -1);
        }
        due("37 NEW is empty", new TailPatches().match(0, 2), -1);
    }

    // ---- what is told of a PATCH made now ----

    /** 38: "of the i-th ANCHOR (0 on) the SPOT (what 0), the PLACE (1), the length (2), .. FORWARD (3), BACK (4), when shared out." */
    private static void promise38() {
        TailPatches x = Calls.with(Calls.row(8, 1, 2, 3, 4), Calls.row(9, 2, 3, 4, 9));
        Calls.dueAnchors("38 two", x, Calls.row(0, 0, 0, 0, 0), Calls.row(1, 2, 3, 0, 0));
        x.set(0, 8);
        Calls.dueAnchors("38 the first REACHES", x, Calls.row(0, 0, 0, 1, 0), Calls.row(1, 2, 3, 0, 0));
        x.set(0, 1);
        Calls.dueAnchors("38 it is of the MATCH", x, Calls.row(0, 0, 0, 0, 0), Calls.row(0, 1, 4, 0, 0));
        int[] old = new int[64];
        int[] fresh = new int[64];
        for (int i = 0; i < 64; i++) {
            old[i] = 2 * i;
            fresh[i] = 2 * (63 - i / 2 * 2 - 1 + i % 2);
        }
        x = Calls.with(old, fresh);
        x.terms(0, 2);
        due("38 as many as can be", x.count(0), 33);
        due("38 the last one's SPOT", x.anchor(32, 0), 62);
        due("38 the last one's PLACE", x.anchor(32, 1), 0);
        due("38 none behind", x.anchor(33, 0), -1);
        due("39 the last SPOT's PLACE", x.origin(63, 0), 1);
        int[] end = {0, 2, 255, 6, 8};
        System.arraycopy(end, 0, fresh, 56, 5);
        Calls.fresh(x, java.util.Arrays.copyOf(fresh, 61));
        due("38 the last one's way goes on", x.count(0), 30);
        due("38 the last one's PLACE", x.anchor(29, 1), 0);
        due("38 the last one REACHES", x.anchor(29, 3), 3);
    }

    /** 38: "NONE." */
    private static void promise38none() {
        TailPatches x = Calls.with(Calls.row(8, 1, 2, 3, 4), Calls.row(9, 2, 3, 4, 9));
        for (int i : new int[] {Integer.MIN_VALUE, -1, 2, 64, Integer.MAX_VALUE}) {
            due("38 anchor(" + i + ", 0)", x.anchor(i, 0), -1);
        }
        for (int what : new int[] {Integer.MIN_VALUE, -1, 5, Integer.MAX_VALUE}) {
            due("38 anchor(0, " + what + ")", x.anchor(0, what), -1);
            due("38 anchor(1, " + what + ")", x.anchor(1, what), -1);
        }
    }

    /** 39: "the PLACE it is from (what 0; NONE: EXTRA), its DIFFERENCE, or its BYTE, if EXTRA (1)." */
    private static void promise39() {
        TailPatches x = Calls.with(Calls.row(1, 2, 3, 4, 5), Calls.row(1, 2, 9, 4, 5, 255, 0));
        int[][] want = {{0, 0}, {1, 0}, {2, 6}, {3, 0}, {4, 0}, {-1, 255}, {-1, 0}};
        for (int spot = 0; spot < 7; spot++) {
            due("39 origin(" + spot + ", 0)", x.origin(spot, 0), want[spot][0]);
            due("39 origin(" + spot + ", 1)", x.origin(spot, 1), want[spot][1]);
        }
        x = Calls.with(Calls.rising(0, 64), Calls.rising(0, 64));
        due("39 the last of 64", x.origin(63, 0), 63);
    }

    /** 39: "NONE." */
    private static void promise39none() {
        TailPatches x = Calls.with(Calls.row(1, 2, 3), Calls.row(1, 2, 3));
        for (int odd : ODD) {
            due("39 origin(" + odd + ", 0)", x.origin(odd, 0), -1);
            due("39 origin(" + odd + ", 1)", x.origin(odd, 1), -1);
            due("39 origin(0, " + odd + ")", x.origin(0, odd), -1);
        }
        due("39 origin(0, 2)", x.origin(0, 2), -1);
        due("39 NEW is empty", new TailPatches().origin(0, 1), -1);
    }

    // ---- what is told of a PATCH ----

    /** OLD 0 .. 7; SLOT 0: say 9, take 2 at 0 by 5, take 1 at 4, say 8 8 8; SLOT 2 the same with a FLAW. */
    private static TailPatches told() {
        TailPatches x = new TailPatches();
        Calls.old(x, Calls.rising(0, 8));
        Calls.recipe(x, 2, "say 9;take 2 at 0 by 5;take 1 at 4;say 8,8,8");
        Calls.recipe(x, 0, "say 9;take 2 at 0 by 5;take 1 at 4;say 8,8,8");
        x.spoil(2, 0, 7);
        return x;
    }

    /** "NONE (a FLAW, too)": of SLOTS that can't be, that have none, that have a FLAW */
    private static void none(String what, TailPatches x, java.util.function.IntUnaryOperator call) {
        for (int slot : NO_SLOTS) {
            due(what + ": SLOT " + slot, call.applyAsInt(slot), -1);
        }
        due(what + ": a FLAW", call.applyAsInt(2), -1);
        Calls.bring(x, 1, 0, 1);
        due(what + ": two BYTES", call.applyAsInt(1), -1);
        Calls.bring(x, 1, 0);
        due(what + ": one BYTE", call.applyAsInt(1), -1);
        due(what + ": no FLAW", call.applyAsInt(0) >= 0 ? 1 : 0, 1);
    }

    /** READ alone: with another OLD, with another CHECK of NEW, it is told as it was. */
    private static void alone(String what, IntSupplier ask, TailPatches x) {
        int ahead = ask.getAsInt();
        Calls.old(x);
        due(what + ": OLD is empty", ask.getAsInt(), ahead);
        due(what + ": as a FLAW for OLD", x.flawOf(0), 4);
        x.undo();
    }

    /** 40: "How many PARTS a PATCH has, READ alone. NONE (a FLAW, too)." */
    private static void promise40() {
        TailPatches x = told();
        due("40 three", x.parts(0), 3);
        alone("40", () -> x.parts(0), x);
        none("40", x, slot -> x.parts(slot));
        TailPatches y = new TailPatches();
        y.make(0);
        due("40 none", y.parts(0), 0);
    }

    /** 41: "the first PLACE of its COPY (what 0; NONE, if it has 0 SPOTS), how many SPOTS that has (1), how many are EXTRA (2)." */
    private static void promise41() {
        TailPatches x = told();
        Calls.dueParts("41", x, 0, Calls.row(-1, 0, 1), Calls.row(0, 2, 0), Calls.row(4, 1, 3));
        alone("41", () -> x.part(0, 2, 0), x);
    }

    /** 41: "NONE (a FLAW, too)." */
    private static void promise41none() {
        TailPatches x = told();
        for (int odd : new int[] {Integer.MIN_VALUE, -1, 3, 99, 100, Integer.MAX_VALUE}) {
            due("41 part(0, " + odd + ", 1)", x.part(0, odd, 1), -1);
            due("41 part(0, 1, " + odd + ")", x.part(0, 1, odd), -1);
        }
        none("41 what 0", x, slot -> x.part(slot, 1, 0));
        TailPatches y = told();
        none("41 what 1", y, slot -> y.part(slot, 0, 1));
        none("41 what 2", y, slot -> y.part(slot, 0, 2));
    }

    /** 42: "By which WAY the DIFFERENCES (what 0), the EXTRA BYTES (1) of a PATCH, READ alone, are PACKED. NONE (a FLAW, too)." */
    private static void promise42() {
        TailPatches x = told();
        due("42 5 5 0", x.way(0, 0), 0);
        due("42 9 8 8 8", x.way(0, 1), 0);
        Calls.sealed(x, 0, 9, 9, 2, 9, 1, 0, 1, 1, 2, 1, 7, 1, 0, 1, 7);
        due("42 other WAYS than the best", x.way(0, 0), 2);
        due("42 other WAYS than the best", x.way(0, 1), 1);
        alone("42", () -> x.way(0, 0), x);
        for (int what : new int[] {Integer.MIN_VALUE, -1, 2, Integer.MAX_VALUE}) {
            due("42 way(0, " + what + ")", x.way(0, what), -1);
        }
        none("42 what 0", x, slot -> x.way(slot, 0));
        none("42 what 1", x, slot -> x.way(slot, 1));
    }

    /** 43: "the i-th, as the number of its PART (0 on). NONE (a FLAW, too)." */
    private static void promise43() {
        TailPatches x = told();
        // SPOTS 1, 2 from 0, 1; SPOT 3 from 4: nothing is read that another one writes.
        due("43 the first", x.order(0, 0), 1);
        due("43 the second", x.order(0, 1), 2);
        for (int i : new int[] {Integer.MIN_VALUE, -1, 2, 3, 99, 100, Integer.MAX_VALUE}) {
            due("43 order(0, " + i + ")", x.order(0, i), -1);
        }
        alone("43", () -> x.order(0, 1), x);
        none("43", x, slot -> x.order(slot, 0));
        Calls.recipe(x, 0, "take 2 at 2;take 2 at 0");
        due("43 a DROPPED one has no ORDER", x.order(0, 0), 1);
        due("43 a DROPPED one has no ORDER", x.order(0, 1), -1);
    }

    /** 44: "how many COPIES are DROPPED (what 0), how many SPOTS these have together (1). NONE (a FLAW, too)." */
    private static void promise44() {
        TailPatches x = told();
        due("44 none", x.dropped(0, 0), 0);
        due("44 none", x.dropped(0, 1), 0);
        Calls.recipe(x, 0, "take 2 at 2;take 2 at 0;take 1 at 5;take 1 at 4;take 1 at 7;take 1 at 6");
        due("44 three", x.dropped(0, 0), 3);
        due("44 four SPOTS", x.dropped(0, 1), 4);
        for (int what : new int[] {Integer.MIN_VALUE, -1, 2, Integer.MAX_VALUE}) {
            due("44 dropped(0, " + what + ")", x.dropped(0, what), -1);
        }
        alone("44", () -> x.dropped(0, 1), x);
        none("44 what 0", x, slot -> x.dropped(slot, 0));
        none("44 what 1", x, slot -> x.dropped(slot, 1));
    }

    /** 45: "The FLAW of a PATCH, READ for OLD; 0 none. NONE (there is no PATCH)." */
    private static void promise45() {
        TailPatches x = told();
        due("45 none", x.flawOf(0), 0);
        due("45 its CHECK", x.flawOf(2), 2);
        for (int slot : NO_SLOTS) {
            due("45 flawOf(" + slot + ")", x.flawOf(slot), -1);
        }
        Calls.bring(x, 1, 0);
        due("45 one BYTE", x.flawOf(1), 1);
        x.swap();
        due("45 for another OLD", x.flawOf(0), 4);
        x.swap();
        due("45 for its OLD again", x.flawOf(0), 0);
        due("45 it is not told by flaw()", x.flaw(), 0);
    }

    // ---- what is told on paper ----

    /** 46: "CHEAPEST (what 0), the COST of the ORIGINS, were a PATCH made now (1). NONE." */
    private static void promise46() {
        TailPatches x = Calls.with(Calls.row(1, 2, 3, 4), Calls.row(3, 4, 1, 2));
        due("46 two COPIES", x.cheapest(0), 6);
        due("46 with LEAST 3 all EXTRA", x.cheapest(1), 8);
        x.terms(0, 2);
        due("46 with LEAST 2", x.cheapest(1), 6);
        for (int what : new int[] {Integer.MIN_VALUE, -1, 2, Integer.MAX_VALUE}) {
            due("46 cheapest(" + what + ")", x.cheapest(what), -1);
        }
    }

    /** 47: "How far OLD and NEW are APART." */
    private static void promise47() {
        TailPatches x = Calls.with(Calls.row(1, 2, 3), Calls.row(2, 3, 4, 5));
        due("47", x.apart(), 3);
        x.swap();
        due("47 exchanged", x.apart(), 3);
        x.swap();
        x.swap();
        Calls.old(x, 1, 2, 3);
        due("47 the same", x.apart(), 0);
    }

    /** 48: "How many SPOTS of a PATCH, READ alone, STAY. NONE (a FLAW, too)." */
    private static void promise48() {
        TailPatches x = told();
        due("48 three", x.stay(0), 3);
        alone("48", () -> x.stay(0), x);
        none("48", x, slot -> x.stay(slot));
    }

    /** 49: "how many ways there are (what 0), the lowest INDEX (1), the lowest BYTE there then (2; 1, 2: NONE: there is no way)" */
    private static void promise49() {
        TailPatches x = told();
        due("49 a FLAW", x.flawOf(2), 2);
        due("49 there is a way", x.save(2, 0) >= 1 ? 1 : 0, 1);
        due("49 OLD's size", x.save(2, 1), 0);
        due("49 as it was", x.save(2, 2), 8);
        due("49 no FLAW, no way", x.save(0, 0), 0);
        due("49 no INDEX", x.save(0, 1), -1);
        due("49 no BYTE", x.save(0, 2), -1);
        due("49 it stays as it is", x.patch(2, 0), 7);
        due("49 it is no act", x.count(5), 4);
    }

    /** 49: "NONE (there is no PATCH; others)." */
    private static void promise49none() {
        TailPatches x = told();
        for (int slot : NO_SLOTS) {
            for (int what = 0; what < 3; what++) {
                due("49 save(" + slot + ", " + what + ")", x.save(slot, what), -1);
            }
        }
        for (int what : new int[] {Integer.MIN_VALUE, -1, 3, Integer.MAX_VALUE}) {
            due("49 save(0, " + what + ")", x.save(0, what), -1);
            due("49 save(2, " + what + ")", x.save(2, what), -1);
        }
    }

    /** 50: "How many signs the LISTING of a PATCH has. NONE (a FLAW, too)." */
    private static void promise50() {
        TailPatches x = told();
        due("50", x.listed(0), "say 9;take 2 at 0 by 5;take 1 at 4;say 8,8,8".length());
        alone("50", () -> x.listed(0), x);
        none("50", x, slot -> x.listed(slot));
        Calls.old(x);
        x.make(0);
        due("50 none", x.listed(0), 0);
        StringBuilder text = new StringBuilder("say 200");
        for (int i = 1; i < 64; i++) {
            text.append(",").append(200 - i % 2);
        }
        Calls.recipe(x, 0, text.toString());
        due("50 64 BYTES", x.listed(0), text.length());
    }

    /** 51: "The i-th sign of the LISTING of a PATCH (0 on). NONE (a FLAW, too)." */
    private static void promise51() {
        TailPatches x = told();
        String want = "say 9;take 2 at 0 by 5;take 1 at 4;say 8,8,8";
        Calls.dueListing("51", x, 0, want);
        for (int i : new int[] {Integer.MIN_VALUE, -1, want.length(), 1280, Integer.MAX_VALUE}) {
            due("51 listing(0, " + i + ")", x.listing(0, i), -1);
        }
        alone("51", () -> x.listing(0, 0), x);
        none("51", x, slot -> x.listing(slot, 0));
    }

    /** 52: "BEST (what 0), how many BYTES it would have then (1). NONE." */
    private static void promise52() {
        TailPatches x = Calls.with(Calls.rising(10, 20), Calls.row(7, 15, 16, 8));
        due("52 LEAST", x.best(0), 3);
        int bytes = x.best(1);
        due("52 BYTES", x.count(2), bytes);
        x.terms(0, 2);
        due("52 LEAST 2 makes more", x.count(2) > bytes ? 1 : 0, 1);
        due("52 LEAST stays", x.count(13), 2);
        for (int what : new int[] {Integer.MIN_VALUE, -1, 2, 3, Integer.MAX_VALUE}) {
            due("52 best(" + what + ")", x.best(what), -1);
        }
    }

    // ---- counts, status ----

    /** 53: "0 how many ANCHORS .., 1 PARTS then, 2 BYTES of the PATCH then" */
    private static void promise53made() {
        for (int what = 0; what < 3; what++) {
            TailPatches y = Calls.with(Calls.row(1, 2, 3), Calls.row(4, 1, 2, 3));
            due("53 asked first: " + what, y.count(what), new int[] {2, 2, 18}[what]);
        }
        TailPatches x = Calls.with(Calls.row(1, 2, 3, 4, 5, 6), Calls.row(4, 5, 6, 1, 2, 3));
        due("53 ANCHORS", x.count(0), 3);
        due("53 PARTS", x.count(1), 2);
        int bytes = x.count(2);
        due("53 BYTES", x.make(0), bytes);
        x.set(0, 9);
        due("53 one is EXTRA then", x.count(1), 2);
        due("53 ANCHORS", x.count(0), 2);
        due("53 the PATCH that was made stays", x.length(0), bytes);
    }

    /** 53: "3 PLACES that are BARRED, 4 SPOTS that are ALIKE with the PLACE of the same number" */
    private static void promise53places() {
        TailPatches x = Calls.with(Calls.row(1, 2, 3), Calls.row(1, 9, 3, 4));
        due("53 none BARRED", x.count(3), 0);
        x.bar(63, 1);
        x.bar(0, 1);
        due("53 two BARRED", x.count(3), 2);
        due("53 two ALIKE", x.count(4), 2);
        x.set(1, 2);
        due("53 three ALIKE, the fourth has no PLACE", x.count(4), 3);
        Calls.fresh(x, 1);
        due("53 PLACES without SPOTS", x.count(4), 1);
        Calls.fresh(x, 1, 2, 3);
        Calls.old(x, 1, 2);
        due("53 a PLACE that OLD had is none", x.count(4), 2);
        Calls.old(x, 1, 2, 3);
        x.cut(2, 1);
        due("53 a SPOT that NEW had is none", x.count(4), 2);
        due("53 nothing", new TailPatches().count(4), 0);
        due("53 64", Calls.with(new int[64], new int[64]).count(4), 64);
    }

    /** 53: "5 how many can be undone, 6 bytes of the TAPE" */
    private static void promise53acts() {
        TailPatches x = new TailPatches();
        for (int i = 0; i <= 20; i++) {
            due("53 acts", x.count(5), Math.min(i, 16));
            due("53 bytes", x.count(6), Math.min(20 * i, 400));
            x.put(0, i);
            x.feed(1, 2, 3, 4, 5);
        }
        x.undo();
        due("53 one fewer", x.count(5), 15);
        due("53 the TAPE stays", x.count(6), 400);
    }

    /** 53: "7 .. 12 how many calls were REFUSED by -1 .. -6" */
    private static void promise53refused() {
        TailPatches x = Calls.with(Calls.row(1), Calls.row());
        Calls.bring(x, 0, 1);
        IntSupplier[] calls = {() -> x.drop(3), () -> x.drop(1), () -> x.apply(0), () -> x.undo() + x.undo() + x.undo()
            + x.undo(), () -> tooMuch(x), () -> Calls.recipe(x, 0, "x")};
        for (int by = 1; by <= 6; by++) {
            for (int i = 1; i <= 6; i++) {
                due("53 count(" + (6 + i) + ") ahead of -" + by, x.count(6 + i), i < by ? 1 : 0);
            }
            calls[by - 1].getAsInt();
            due("53 status", x.status(), -by);
        }
        due("53 all", x.count(12), 1);
        x.feed(1, 2, 3, 4, 5);
        x.end(99);
        x.size(9);
        x.sorted(9, 9);
        x.flawOf(9);
        due("53 NONE is not REFUSED", x.count(7), 1);
        x.swap();
        due("53 they stay", x.count(7), 1);
    }

    private static int tooMuch(TailPatches x) {
        Calls.tape(x, new int[65]);
        return x.file(0);
    }

    /** 53: "13 .. 17 TERMS 0 .. 4. NONE for others." */
    private static void promise53terms() {
        TailPatches x = new TailPatches();
        int[] first = {3, 1, 1, 1, 2};
        for (int i = 0; i < 5; i++) {
            due("53 at first", x.count(13 + i), first[i]);
            x.terms(i, 6 - i);
            due("53 then", x.count(13 + i), 6 - i);
        }
        for (int what : new int[] {Integer.MIN_VALUE, -1, 18, 19, 64, Integer.MAX_VALUE}) {
            due("53 count(" + what + ")", x.count(what), -1);
        }
    }

    /** 54: "What the latest call of .. was REFUSED by": each of them */
    private static void promise54() {
        TailPatches x = Calls.with(Calls.row(1), Calls.row(2));
        Calls.bring(x, 0, 1);
        x.end(0);
        List<IntSupplier> calls = List.of(() -> x.terms(9, 9), () -> x.bar(64, 0), () -> x.bring(0), () -> x.recipe(0),
                () -> x.bar(0, 0), () -> x.file(2), () -> x.set(0, 2), () -> x.cut(0, 0), () -> x.drop(1), () -> x.put(9, 9),
                () -> x.apply(0), () -> x.move(0, 1, 0), () -> x.make(3), () -> x.join(0, 0, 0), () -> x.begin(1),
                () -> x.turn(0, 0), () -> x.apply(1), () -> x.begin(0), () -> x.write(1), () -> x.spoil(1, 0, 0),
                () -> x.seal(0), () -> x.seal(1));
        for (int i = 0; i < calls.size(); i++) {
            int got = calls.get(i).getAsInt();
            due("54 call " + i + " is REFUSED", got < 0 ? 1 : 0, 1);
            due("54 call " + i, x.status(), got);
            due("54 call " + i + ": asked again", x.status(), got);
        }
    }

    /** 54: "0 if it was not" */
    private static void promise54fine() {
        TailPatches x = Calls.with(Calls.row(1, 2, 3), Calls.row(2, 3));
        Calls.recipe(x, 1, "take 3 at 0");
        Calls.tape(x, 1, 2, 3, 4);
        List<IntSupplier> calls = List.of(() -> x.terms(0, 3), () -> x.bring(2), () -> x.bar(9, 1), () -> x.make(0),
                () -> x.join(1, 1, 1), () -> x.turn(0, 2), () -> x.apply(0), () -> x.seal(0), () -> x.spoil(2, 0, 9),
                () -> x.drop(2), () -> x.set(0, 9), () -> x.put(0, 9), () -> x.move(0, 1, 2), () -> x.cut(0, 1),
                () -> x.begin(0), () -> x.write(9), () -> x.swap(), () -> x.advance(), () -> x.undo(), () -> x.file(0));
        for (int i = 0; i < calls.size(); i++) {
            x.drop(3);
            due("54 ahead of call " + i, x.status(), -1);
            due("54 call " + i + " is not REFUSED", calls.get(i).getAsInt() >= 0 ? 1 : 0, 1);
            due("54 call " + i, x.status(), 0);
        }
        Calls.recipe(x, 0, "x");
        Calls.recipe(x, 0, "say 1");
        due("54 recipe", x.status(), 0);
    }

    /** 54: "or ahead of any"; other calls are nothing to it. */
    private static void promise54others() {
        TailPatches x = new TailPatches();
        x.size(9);
        x.feed(1, 2, 3, 4, 5);
        x.end(99);
        x.end(0);
        due("54 ahead of any", x.status(), 0);
        x.undo();
        int[] told = {x.size(0), x.byteOf(0, 0), x.length(0), x.patch(0, 0), x.feed(1, 2, 3, 4, 5), x.end(0), x.fault(),
            x.stopped(), x.flaw(), x.loaded(0), x.left(), x.sorted(0, 0), x.kinds(1), x.repeated(0), x.match(0, 0),
            x.anchor(0, 0), x.origin(0, 0), x.parts(0), x.part(0, 0, 0), x.way(0, 0), x.order(0, 0), x.dropped(0, 0),
            x.flawOf(0), x.cheapest(0), x.apart(), x.stay(0), x.save(0, 0), x.listed(0), x.listing(0, 0), x.best(0),
            x.count(0), x.status()};
        due("54 behind " + told.length + " others", x.status(), -4);
        due("54 none of them was REFUSED", x.count(7), 0);
        due("54 but undo()", x.count(10), 1);
    }

    public static void main(String[] args) {
        promise34();
        promise34none();
        promise35();
        promise35none();
        promise36();
        promise36none();
        promise37();
        promise37none();
        promise38();
        promise38none();
        promise39();
        promise39none();
        promise40();
        promise41();
        promise41none();
        promise42();
        promise43();
        promise44();
        promise45();
        promise46();
        promise47();
        promise48();
        promise49();
        promise49none();
        promise50();
        promise51();
        promise52();
        promise53made();
        promise53places();
        promise53acts();
        promise53refused();
        promise53terms();
        promise54();
        promise54fine();
        promise54others();
        Calls.close();
    }
}
