import java.util.List;
import java.util.function.Supplier;
import java.util.function.ToIntFunction;

/** Promises 19 to 33: each sentence that tells where something ends has a test of its own, in the document's order. */
public final class ActPromisesBoundsTest {
    private static final int[] NO_SLOTS = {Integer.MIN_VALUE, -1, 3, Integer.MAX_VALUE};

    private static void due(String call, int got, int want) {
        Calls.due(call, got, want);
    }

    /** OLD 1 2 3 4, NEW 2 3 4 5; SLOT 0 its PATCH, SLOT 1 one BYTE alone (FLAW 1), SLOT 2 none. */
    private static TailPatches three() {
        TailPatches x = Calls.with(Calls.row(1, 2, 3, 4), Calls.row(2, 3, 4, 5));
        x.make(0);
        Calls.bring(x, 1, 9);
        return x;
    }

    /** The same, the RUN of the PATCH in SLOT 0 goes on, n BYTES are written. */
    private static TailPatches running(int n) {
        TailPatches x = three();
        x.begin(0);
        if (n > 0) {
            x.write(n);
        }
        return x;
    }

    // ---- make, join, turn ----

    /** 19: "The PATCH that makes NEW from OLD is in a SLOT: how many BYTES it has." */
    private static void promise19() {
        for (int slot = 0; slot < 3; slot++) {
            TailPatches x = three();
            due("19 how many", x.make(slot), x.count(2));
            due("19 it has them", x.length(slot), x.count(2));
            due("19 no FLAW", x.flawOf(slot), 0);
            Calls.dueOut("19 NEW", x, slot, 2, 3, 4, 5);
        }
        TailPatches x = new TailPatches();
        due("19 nothing from nothing", x.make(0), 9);
        Calls.dueOut("19 nothing", x, 0);
        int[] all = Calls.rising(0, 64);
        x = Calls.with(all, all);
        x.make(0);
        Calls.dueOut("19 64 from 64", x, 0, all);
        x = Calls.with(all, Calls.row());
        x.make(0);
        Calls.dueOut("19 nothing from 64", x, 0);
        x = Calls.with(Calls.row(), all);
        x.make(0);
        Calls.dueOut("19 64 from nothing", x, 0, all);
        x = running(1);
        due("19 while a RUN goes on", x.make(2), x.count(2));
    }

    /** 19: "-1." */
    private static void promise19refused() {
        TailPatches x = three();
        for (int slot : NO_SLOTS) {
            Calls.stays("19 make(" + slot + ")", x, () -> x.make(slot), -1);
        }
    }

    /** 20: "is in SLOT to (these may be the same): how many BYTES it has." */
    private static void promise20() {
        for (int to = 0; to < 3; to++) {
            TailPatches x = Calls.with(Calls.row(1, 2, 3), Calls.row(2, 3));
            x.make(0);
            x.swap();
            x.make(1);
            x.swap();
            due("20 into SLOT " + to, x.join(0, 1, to), x.length(to));
            Calls.dueOut("20 there and back, in SLOT " + to, x, to, 1, 2, 3);
            due("20 it is an act", x.count(5), 8);
        }
        TailPatches x = Calls.with(Calls.row(1, 2), Calls.row(1, 2));
        x.make(0);
        due("20 all the same", x.join(0, 0, 0), x.length(0));
        Calls.dueOut("20 all the same", x, 0, 1, 2);
        TailPatches y = Calls.with(Calls.row(1, 2), Calls.row(1, 2));
        y.make(0);
        y.begin(0);
        y.write(1);
        due("20 while a RUN goes on", y.join(0, 0, 2), y.length(2));
    }

    /** 20: "-1" */
    private static void promise20number() {
        for (int slot : NO_SLOTS) {
            TailPatches x = three();
            Calls.stays("20 join(" + slot + ", 0, 0)", x, () -> x.join(slot, 0, 0), -1);
            Calls.stays("20 join(0, " + slot + ", 0)", x, () -> x.join(0, slot, 0), -1);
            Calls.stays("20 join(0, 0, " + slot + ")", x, () -> x.join(0, 0, slot), -1);
        }
    }

    /** 20: "-2" */
    private static void promise20none() {
        TailPatches x = three();
        Calls.stays("20 one is none", x, () -> x.join(2, 0, 1), -2);
        Calls.stays("20 other is none", x, () -> x.join(0, 2, 1), -2);
        Calls.stays("20 both", x, () -> x.join(2, 2, 1), -2);
        due("20 to need not have one", x.join(0, 0, 2), -4);
    }

    /** 20: "-3 (one's FLAW, if it has one, or else the other's)" */
    private static void promise20flaw() {
        TailPatches x = three();
        Calls.bring(x, 2, 8, 8);
        Calls.stays("20 both have", x, () -> x.join(1, 2, 0), -3);
        due("23 one's", x.flaw(), 1);
        Calls.stays("20 both have", x, () -> x.join(2, 1, 0), -3);
        due("23 one's", x.flaw(), 2);
        Calls.stays("20 the other has", x, () -> x.join(0, 1, 0), -3);
        due("23 the other's", x.flaw(), 1);
        Calls.stays("20 one has", x, () -> x.join(2, 0, 0), -3);
        due("23 one's", x.flaw(), 2);
    }

    /** 20: "-4 they don't go together." */
    private static void promise20apart() {
        TailPatches x = three();
        Calls.stays("20 the PATCH and itself", x, () -> x.join(0, 0, 2), -4);
        due("23 neither has a FLAW", x.flaw(), 0);
    }

    /** 21: "The PATCH of a SLOT, TURNED, is in SLOT to: how many BYTES it has." */
    private static void promise21() {
        for (int to = 0; to < 3; to++) {
            TailPatches x = three();
            due("21 into SLOT " + to, x.turn(0, to), x.length(to));
            x.swap();
            Calls.dueOut("21 OLD comes of NEW", x, to, 1, 2, 3, 4);
        }
        TailPatches x = new TailPatches();
        x.make(0);
        due("21 nothing", x.turn(0, 0), 9);
        Calls.duePatch("21 nothing", x, 0, 0, 1, 0, 1, 0, 0, 0, 0, 144);
    }

    /** 21: "-1; -2; -3." */
    private static void promise21refused() {
        for (int slot : NO_SLOTS) {
            TailPatches x = three();
            Calls.stays("21 turn(" + slot + ", 0)", x, () -> x.turn(slot, 0), -1);
            Calls.stays("21 turn(0, " + slot + ")", x, () -> x.turn(0, slot), -1);
        }
        TailPatches x = three();
        Calls.stays("21 none", x, () -> x.turn(2, 0), -2);
        Calls.stays("21 a FLAW", x, () -> x.turn(1, 0), -3);
        due("23 that", x.flaw(), 1);
        Calls.old(x, 5);
        Calls.stays("21 of another OLD", x, () -> x.turn(0, 0), -3);
        due("23 that", x.flaw(), 4);
    }

    // ---- apply, flaw, loaded ----

    /** 22: "To APPLY: how many BYTES OUT has." */
    private static void promise22() {
        TailPatches x = three();
        due("22 four", x.apply(0), 4);
        Calls.dueFile("22 OUT", x, 2, 2, 3, 4, 5);
        Calls.dueFile("22 OLD stays", x, 0, 1, 2, 3, 4);
        due("22 it is an act", x.undo(), 11);
        due("22 OUT is empty again", x.size(2), 0);
        Calls.recipe(x, 0, "take 1 at 3");
        due("22 one", x.apply(0), 1);
        Calls.dueFile("22 OUT is one alone", x, 2, 4);
        Calls.fresh(x);
        x.make(0);
        due("22 none", x.apply(0), 0);
        Calls.dueFile("22 OUT is empty", x, 2);
        TailPatches y = running(0);
        due("22 while a RUN goes on that wrote nothing", y.apply(0), 4);
    }

    /** 22: "-1; -2; -3." */
    private static void promise22refused() {
        for (int slot : NO_SLOTS) {
            Calls.stays("22 apply(" + slot + ")", () -> three(), x -> x.apply(slot), -1);
        }
        TailPatches x = three();
        x.apply(0);
        Calls.stays("22 none", x, () -> x.apply(2), -2);
        Calls.stays("22 a FLAW", x, () -> x.apply(1), -3);
        Calls.dueFile("22 OUT stays", x, 2, 2, 3, 4, 5);
    }

    /** 23: "FLAW of the latest join(), turn(), apply(), begin() that was not REFUSED by -1, -2" */
    private static void promise23() {
        TailPatches x = three();
        x.apply(1);
        due("23 apply's", x.flaw(), 1);
        x.apply(2);
        x.apply(3);
        x.turn(2, 0);
        x.turn(0, 3);
        x.join(0, 2, 0);
        x.join(0, 0, 3);
        x.begin(2);
        x.begin(-1);
        due("23 not of those REFUSED by -1, -2", x.flaw(), 1);
        x.flawOf(0);
        x.parts(0);
        x.save(0, 0);
        x.make(2);
        Calls.recipe(x, 2, "say 1");
        due("23 nor of others", x.flaw(), 1);
        x.turn(0, 2);
        due("23 turn's", x.flaw(), 0);
        x.begin(1);
        due("23 begin's", x.flaw(), 1);
        x.join(0, 0, 2);
        due("23 join's, REFUSED by -4", x.flaw(), 0);
        x.join(0, 1, 2);
        due("23 join's", x.flaw(), 1);
        x.begin(0);
        due("23 begin's", x.flaw(), 0);
        x.begin(1);
        due("23 begin's while a RUN goes on", x.flaw(), 1);
        x.begin(0);
        due("23 begin's, REFUSED by -4", x.flaw(), 0);
        x.write(1);
        x.apply(0);
        due("23 4, as OLD is another one", x.flaw(), 4);
        x.undo();
        due("23 it is not undone", x.flaw(), 4);
    }

    /** 23: "0 without one, ahead of any." */
    private static void promise23none() {
        TailPatches x = new TailPatches();
        due("23 ahead of any", x.flaw(), 0);
        x.apply(0);
        x.apply(3);
        due("23 ahead of any but those REFUSED by -1, -2", x.flaw(), 0);
        x = three();
        x.apply(1);
        x.apply(0);
        due("23 without one", x.flaw(), 0);
    }

    /** 24: "Of the latest apply() that was not REFUSED (0 ahead of any)" */
    private static void promise24() {
        TailPatches x = Calls.with(Calls.rising(0, 64), Calls.row());
        due("24 ahead of any", x.loaded(0), 0);
        due("24 ahead of any", x.loaded(1), 0);
        x.apply(0);
        due("24 ahead of any that was not REFUSED", x.loaded(0), 0);
        Calls.recipe(x, 0, "take 3 at 7;take 1 at 40");
        x.apply(0);
        due("24 LOADED", x.loaded(0), 6);
        due("24 held", x.loaded(1), 2);
        Calls.bring(x, 1, 1);
        x.apply(1);
        x.apply(2);
        x.apply(3);
        due("24 REFUSED ones are not told", x.loaded(0), 6);
        x.terms(4, 6);
        x.turn(0, 2);
        due("24 of apply() alone", x.loaded(0), 6);
        x.undo();
        x.undo();
        x.undo();
        due("24 it is not undone", x.loaded(0), 6);
        x.apply(0);
        due("24 of the latest", x.loaded(0), 3);
        due("24 held", x.loaded(1), 3);
        Calls.recipe(x, 0, "say 1");
        x.apply(0);
        due("24 none is read", x.loaded(0), 0);
        due("24 none is held", x.loaded(1), 0);
    }

    /** 24: "NONE." */
    private static void promise24none() {
        TailPatches x = three();
        x.apply(0);
        for (int what : new int[] {Integer.MIN_VALUE, -1, 2, Integer.MAX_VALUE}) {
            due("24 loaded(" + what + ")", x.loaded(what), -1);
        }
    }

    // ---- begin, write, left ----

    /** 25: "A RUN begins .. how many BYTES are to be written." */
    private static void promise25() {
        TailPatches x = three();
        due("25 four", x.begin(0), 4);
        due("27 four", x.left(), 4);
        due("25 it is an act", x.undo(), 12);
        due("27 none goes on", x.left(), -1);
        int[] all = Calls.rising(0, 64);
        x = Calls.with(Calls.row(), all);
        x.make(0);
        due("25 64", x.begin(0), 64);
    }

    /** 25: "(it is over at once, if NEW's size is 0)" */
    private static void promise25over() {
        TailPatches x = Calls.with(Calls.row(1, 2), Calls.row());
        x.make(0);
        due("25 none", x.begin(0), 0);
        due("27 it is over", x.left(), -1);
        due("25 OLD has NEW's size", x.size(0), 0);
        Calls.stays("26 none goes on", x, () -> x.write(1), -4);
        due("25 another may begin", x.begin(0), -3);
        due("31 OLD may be another", x.swap(), 0);
        x.undo();
        due("25 it is an act", x.undo(), 12);
        Calls.dueFile("25 undone", x, 0, 1, 2);
    }

    /** 25: "-1; -2; -3; -4 one goes on." */
    private static void promise25refused() {
        for (int slot : NO_SLOTS) {
            Calls.stays("25 begin(" + slot + ")", () -> three(), x -> x.begin(slot), -1);
        }
        TailPatches x = three();
        Calls.stays("25 none", x, () -> x.begin(2), -2);
        Calls.stays("25 a FLAW", x, () -> x.begin(1), -3);
        TailPatches y = running(0);
        Calls.stays("25 one goes on", y, () -> y.begin(0), -4);
        y.write(4);
        Calls.recipe(y, 0, "take 1 at 0");
        due("25 none goes on any more", y.begin(0), 1);
    }

    /** 26: "The next n BYTES (1 and more; all, if fewer are left) of the RUN are written: how many are left." */
    private static void promise26() {
        TailPatches x = running(0);
        due("26 one", x.write(1), 3);
        due("26 two", x.write(2), 1);
        due("26 more than are left", x.write(2), 0);
        due("26 they are acts", x.undo(), 13);
        due("26 as many as are left", x.write(1), 0);
        x = running(0);
        due("26 all at once", x.write(4), 0);
        Calls.dueFile("26 all", x, 0, 2, 3, 4, 5);
        x = running(0);
        due("26 the most", x.write(Integer.MAX_VALUE), 0);
        Calls.dueFile("26 all", x, 0, 2, 3, 4, 5);
    }

    /** 26: "-1; -4 none goes on." */
    private static void promise26refused() {
        TailPatches x = running(2);
        for (int n : new int[] {Integer.MIN_VALUE, -1, 0}) {
            Calls.stays("26 write(" + n + ")", x, () -> x.write(n), -1);
        }
        TailPatches y = three();
        Calls.stays("26 ahead of any RUN", y, () -> y.write(1), -4);
        TailPatches z = running(4);
        Calls.stays("26 it is over", z, () -> z.write(1), -4);
    }

    /** 27: "How many BYTES of the RUN that goes on are left. NONE without one." */
    private static void promise27() {
        TailPatches x = three();
        due("27 ahead of any", x.left(), -1);
        x.begin(0);
        for (int left = 4; left > 0; left--) {
            due("27 left", x.left(), left);
            x.write(1);
        }
        due("27 it is over", x.left(), -1);
        x.undo();
        due("27 the last one undone", x.left(), 1);
    }

    /** Terms, III: a RUN is one of the PATCH that was there; NEW, SLOTS, BARRED, TERMS are nothing to it then. */
    private static void aRunGoesItsWay() {
        TailPatches x = running(1);
        x.drop(0);
        x.cut(0, 4);
        x.bar(0, 1);
        x.terms(4, 1);
        Calls.recipe(x, 0, "say 9");
        due("26 it goes on", x.write(1), 2);
        x.apply(0);
        due("26 it goes on", x.write(9), 0);
        Calls.dueFile("26 as it began", x, 0, 2, 3, 4, 5);
    }

    // ---- spoil, seal, drop, swap, advance ----

    /** 28: "Another BYTE at an INDEX of a PATCH: what it was." */
    private static void promise28() {
        TailPatches x = new TailPatches();
        int[] row = new int[300];
        row[299] = 7;
        Calls.bring(x, 2, row);
        due("28 the first", x.spoil(2, 0, 255), 0);
        due("28 the last", x.spoil(2, 299, 0), 7);
        due("28 it is there", x.patch(2, 0), 255);
        due("28 it is there", x.patch(2, 299), 0);
        due("28 as many as it had", x.length(2), 300);
        due("28 it is an act", x.undo(), 14);
    }

    /** 28: "-1 (no INDEX 0 .. 299, too)" */
    private static void promise28number() {
        TailPatches x = three();
        for (int index : new int[] {Integer.MIN_VALUE, -1, 300, Integer.MAX_VALUE}) {
            Calls.stays("28 spoil(0, " + index + ", 1)", x, () -> x.spoil(0, index, 1), -1);
        }
        TailPatches y = three();
        for (int value : new int[] {Integer.MIN_VALUE, -1, 256, Integer.MAX_VALUE}) {
            Calls.stays("28 spoil(0, 0, " + value + ")", y, () -> y.spoil(0, 0, value), -1);
        }
        TailPatches z = three();
        for (int slot : NO_SLOTS) {
            Calls.stays("28 spoil(" + slot + ", 0, 1)", z, () -> z.spoil(slot, 0, 1), -1);
        }
    }

    /** 28: "-2; -4 it has no such INDEX; it is so." */
    private static void promise28refused() {
        Calls.stays("28 none", () -> three(), x -> x.spoil(2, 0, 1), -2);
        Calls.stays("28 none, the last INDEX", () -> three(), x -> x.spoil(2, 299, 1), -2);
        Calls.stays("28 no such INDEX", () -> three(), x -> x.spoil(1, 1, 1), -4);
        Calls.stays("28 no such INDEX", () -> three(), x -> x.spoil(1, 299, 0), -4);
        Calls.stays("28 it is so", () -> three(), x -> x.spoil(1, 0, 9), -4);
        TailPatches x = three();
        due("28 it is not", x.spoil(1, 0, 8), 9);
    }

    /** 29: "The last two BYTES of a PATCH are the CHECK of those ahead then, as in a PATCH: 1, if they were not, else 0." */
    private static void promise29() {
        TailPatches x = new TailPatches();
        int[][] rows = {{0, 0}, {0, 1}, {1, 1}, {253, 0, 0}, {253, 1, 0}, {253, 0, 254}, {253, 1, 254}, {7, 0, 10}, {252, 0, 255},
            {252, 1, 255}, {252, 1, 0}, {7, 1, 10}};
        int[] want = {1, 0, 1, 1, 0, 1, 1, 0, 0, 1, 1, 1};
        for (int i = 0; i < rows.length; i++) {
            Calls.bring(x, 0, rows[i]);
            due("29 row " + i, x.seal(0), want[i]);
            due("29 row " + i + " once more", x.seal(0), 0);
            due("29 row " + i + ": as many BYTES", x.length(0), rows[i].length);
            due("29 row " + i + ": not the FLAW 2", x.flawOf(0), 3);
        }
        due("29 0 is an act, too", x.undo(), 15);
        due("29 1 is an act", x.undo(), 15);
        Calls.duePatch("29 undone", x, 0, 7, 1, 10);
        Calls.bring(x, 1, new int[300]);
        due("29 of 300", x.seal(1), 1);
        due("29 298 ahead", x.patch(1, 298) * 256 + x.patch(1, 299), Calls.check(new int[298]));
    }

    /** 29: "-1; -2; -4 it has fewer than 2." */
    private static void promise29refused() {
        for (int slot : NO_SLOTS) {
            Calls.stays("29 seal(" + slot + ")", () -> three(), x -> x.seal(slot), -1);
        }
        TailPatches x = three();
        Calls.stays("29 none", x, () -> x.seal(2), -2);
        Calls.stays("29 one BYTE", x, () -> x.seal(1), -4);
    }

    /** 30: "A SLOT has none then: how many BYTES it had. -1; -2." */
    private static void promise30() {
        for (int slot : NO_SLOTS) {
            Calls.stays("30 drop(" + slot + ")", () -> three(), x -> x.drop(slot), -1);
        }
        TailPatches x = three();
        Calls.stays("30 none", x, () -> x.drop(2), -2);
        due("30 one BYTE", x.drop(1), 1);
        due("30 none then", x.length(1), -1);
        Calls.stays("30 none any more", x, () -> x.drop(1), -2);
        due("30 it is an act", x.undo(), 16);
        Calls.duePatch("30 undone", x, 1, 9);
        Calls.bring(x, 2, new int[300]);
        due("30 300 BYTES", x.drop(2), 300);
    }

    /** 31: "OLD and NEW are exchanged: how many BYTES OLD has then. -4 a RUN goes on." */
    private static void promise31() {
        TailPatches x = Calls.with(Calls.row(1, 2), Calls.rising(0, 64));
        due("31 64", x.swap(), 64);
        due("31 2", x.swap(), 2);
        Calls.dueFile("31 as they were", x, 0, 1, 2);
        Calls.fresh(x);
        due("31 none", x.swap(), 0);
        Calls.dueFile("31 NEW", x, 1, 1, 2);
        due("31 both empty", new TailPatches().swap(), 0);
        TailPatches y = running(1);
        Calls.stays("31 a RUN goes on", y, () -> y.swap(), -4);
        y.write(3);
        due("31 it is over", y.swap(), 4);
        due("31 it is an act", y.undo(), 17);
    }

    /** 32: "OLD becomes what OUT is: how many BYTES it has then. -4 a RUN goes on." */
    private static void promise32() {
        TailPatches x = three();
        x.apply(0);
        due("32 four", x.advance(), 4);
        Calls.dueFile("32 OLD", x, 0, 2, 3, 4, 5);
        Calls.dueFile("32 OUT stays", x, 2, 2, 3, 4, 5);
        due("32 once more", x.advance(), 4);
        due("32 it is an act", x.undo(), 18);
        due("32 it is an act", x.undo(), 18);
        Calls.dueFile("32 undone", x, 0, 1, 2, 3, 4);
        x = three();
        due("32 OUT is empty", x.advance(), 0);
        due("32 OLD is empty", x.size(0), 0);
        TailPatches y = running(1);
        Calls.stays("32 a RUN goes on", y, () -> y.advance(), -4);
        y.write(3);
        due("32 it is over", y.advance(), 0);
    }

    // ---- undo ----

    private static void undone(int act, Supplier<TailPatches> made, ToIntFunction<TailPatches> call) {
        TailPatches x = made.get();
        List<Integer> ahead = Calls.standing(x);
        int done = x.count(5);
        due("33 act " + act + " is not REFUSED", call.applyAsInt(x) >= 0 ? 1 : 0, 1);
        due("33 act " + act + " can be undone", x.count(5), done + 1);
        due("33 act " + act + " is told", x.undo(), act);
        due("33 act " + act + ": status()", x.status(), 0);
        due("33 act " + act + ": all is as it was", Calls.standing(x).equals(ahead) ? 1 : 0, 1);
    }

    /** three(), one PLACE BARRED, OUT there. */
    private static TailPatches more() {
        TailPatches x = three();
        x.bar(2, 1);
        x.apply(0);
        return x;
    }

    /** 33: "The latest file() (told as 0), .. advance() (18) .. is undone (FILES, SLOTS, what is BARRED, the RUN are as they were): that." */
    private static void promise33() {
        Supplier<TailPatches> more = () -> more();
        undone(0, more, x -> Calls.old(x, 7));
        undone(0, more, x -> Calls.fresh(x));
        undone(1, more, x -> Calls.bring(x, 0, 7));
        undone(1, more, x -> Calls.bring(x, 2, new int[30]));
        undone(2, more, x -> x.bar(1, 1));
        undone(2, more, x -> x.bar(2, 0));
        undone(3, more, x -> Calls.recipe(x, 2, "say 1"));
        undone(3, more, x -> Calls.recipe(x, 0, "take 4 at 0"));
        undone(4, more, x -> x.set(0, 0));
        undone(5, more, x -> x.cut(0, 4));
        undone(6, more, x -> x.put(4, 0));
        undone(7, more, x -> x.move(0, 1, 1));
        undone(8, more, x -> x.make(1));
        undone(9, () -> turned(), x -> x.join(0, 1, 2));
        undone(9, () -> turned(), x -> x.join(0, 1, 0));
        undone(10, more, x -> x.turn(0, 0));
        undone(11, more, x -> x.apply(0));
        undone(12, more, x -> x.begin(0));
        undone(13, () -> running(0), x -> x.write(1));
        undone(13, () -> running(0), x -> x.write(4));
        undone(13, () -> running(3), x -> x.write(1));
        undone(14, more, x -> x.spoil(1, 0, 0));
        undone(15, more, x -> x.seal(0));
        undone(16, more, x -> x.drop(0));
        undone(17, more, x -> x.swap());
        undone(18, more, x -> x.advance());
    }

    private static TailPatches turned() {
        TailPatches x = more();
        x.turn(0, 1);
        return x;
    }

    /** 33: "(16 are kept)" */
    private static void promise33kept() {
        for (int acts : new int[] {15, 16, 17, 18, 40, 60}) {
            TailPatches x = new TailPatches();
            for (int i = 0; i < acts; i++) {
                x.put(i, i);
            }
            int kept = Math.min(acts, 16);
            due("33 kept of " + acts, x.count(5), kept);
            for (int i = kept; i > 0; i--) {
                due("33 the last one", x.byteOf(1, acts - kept + i - 1), acts - kept + i - 1);
                due("33 undone", x.undo(), 6);
                due("33 the last one is gone", x.size(1), acts - kept + i - 1);
                due("33 can be undone", x.count(5), i - 1);
            }
            due("33 no more of " + acts, x.undo(), -4);
            due("33 what is left of " + acts, x.size(1), acts - kept);
        }
    }

    /** 33: "(16 are kept)": the latest ones, however many there were */
    private static void promise33many() {
        TailPatches x = Calls.with(Calls.row(), Calls.row(255));
        for (int i = 0; i < 420; i++) {
            x.set(0, i % 200);
        }
        for (int i = 418; i >= 403; i--) {
            due("33 of 420", x.undo(), 4);
            due("33 of 420: the one ahead", x.byteOf(1, 0), i % 200);
        }
        due("33 of 420: no more", x.undo(), -4);
    }

    /** 33: "that was not REFUSED"; terms(), feed(), end() and what is told are no acts, either. */
    private static void promise33notRefused() {
        TailPatches x = Calls.with(Calls.row(1), Calls.row(2));
        x.set(0, 3);
        x.set(0, 3);
        x.set(1, 3);
        x.terms(0, 5);
        x.feed(1, 2, 3, 4, 5);
        x.end(7);
        x.make(3);
        x.best(0);
        due("33 the latest that was not REFUSED", x.undo(), 4);
        due("33 it is undone", x.byteOf(1, 0), 2);
        due("33 TERMS stay", x.count(13), 5);
        due("33 the TAPE stays", x.count(6), 7);
        due("33 undo() is no act: the one ahead", x.undo(), 0);
        due("33 and the one ahead", x.undo(), 0);
        due("33 none is left", x.undo(), -4);
    }

    /** 33: "-4 there is none." */
    private static void promise33none() {
        TailPatches x = new TailPatches();
        Calls.stays("33 ahead of any", x, () -> x.undo(), -4);
        x.put(0, 1);
        x.undo();
        Calls.stays("33 none any more", x, () -> x.undo(), -4);
        x.put(0, 2);
        due("33 one again", x.undo(), 6);
    }

    /** 33: "the RUN [is] as [it was]": one that was over goes on, one that went on is the one that was there ahead. */
    private static void promise33run() {
        TailPatches x = running(3);
        x.write(1);
        Calls.dueFile("33 over", x, 0, 2, 3, 4, 5);
        Calls.recipe(x, 0, "say 1,2;take 3 at 1");
        due("33 another RUN", x.begin(0), 5);
        x.write(5);
        Calls.dueFile("33 over, too", x, 0, 1, 2, 3, 4, 5);
        due("33 back", x.undo(), 13);
        due("33 the second", x.left(), 5);
        due("33 back", x.undo(), 12);
        due("33 none", x.left(), -1);
        Calls.dueFile("33 as the first left it", x, 0, 2, 3, 4, 5);
        due("33 back", x.undo(), 3);
        due("33 back", x.undo(), 13);
        due("33 the first", x.left(), 1);
        Calls.dueFile("33 but for its last BYTE", x, 0, 2, 3, 4, 4);
        due("33 its last BYTE", x.write(9), 0);
        Calls.dueFile("33 its last BYTE", x, 0, 2, 3, 4, 5);
    }

    /** 33: "FILES, SLOTS, what is BARRED, the RUN are as they were": as long as they can be */
    private static void promise33long() {
        int[] old = Calls.rising(0, 64);
        TailPatches x = new TailPatches();
        Calls.old(x, old);
        Calls.recipe(x, 0, "say 9;take 30 at 34;take 33 at 1 by 7");
        Calls.recipe(x, 1, "fill 64 with 5");
        x.apply(0);
        int[] want = new int[64];
        for (int i = 0; i < 64; i++) {
            want[i] = x.byteOf(2, i);
        }
        x.begin(0);
        x.write(3);
        x.write(61);
        for (int i = 0; i < 64; i++) {
            due("33 the RUN as APPLIED", x.byteOf(0, i), want[i]);
        }
        Calls.recipe(x, 1, "fill 64 with 5");
        x.begin(1);
        x.write(64);
        int[] back = {13, 12, 3, 13};
        for (int act : back) {
            due("33 back", x.undo(), act);
        }
        due("33 61 are left", x.left(), 61);
        x.write(61);
        for (int i = 0; i < 64; i++) {
            due("33 the RUN once more", x.byteOf(0, i), want[i]);
        }
        x = new TailPatches();
        Calls.old(x, Calls.filled(7, 64));
        Calls.bring(x, 2, Calls.filled(3, 300));
        x.bar(63, 1);
        x.swap();
        Calls.bring(x, 2, 1);
        x.bar(63, 0);
        for (int i = 0; i < 3; i++) {
            x.undo();
        }
        due("33 PLACE 63 is BARRED", x.sorted(63, 0), -1);
        due("33 the others are not", x.sorted(62, 0), 0);
        due("33 OLD's last", x.byteOf(0, 63), 7);
        due("33 300 BYTES", x.length(2), 300);
        due("33 the last of 300", x.patch(2, 299), 3);
    }

    public static void main(String[] args) {
        promise19();
        promise19refused();
        promise20();
        promise20number();
        promise20none();
        promise20flaw();
        promise20apart();
        promise21();
        promise21refused();
        promise22();
        promise22refused();
        promise23();
        promise23none();
        promise24();
        promise24none();
        promise25();
        promise25over();
        promise25refused();
        promise26();
        promise26refused();
        promise27();
        aRunGoesItsWay();
        promise28();
        promise28number();
        promise28refused();
        promise29();
        promise29refused();
        promise30();
        promise31();
        promise32();
        promise33();
        promise33kept();
        promise33many();
        promise33notRefused();
        promise33none();
        promise33run();
        promise33long();
        Calls.close();
    }
}
