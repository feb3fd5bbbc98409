/** Terms, V: each sentence that tells where something ends has a test of its own, in the document's order. */
public final class PaperBoundsTest {
    private static void due(String call, int got, int want) {
        Calls.due(call, got, want);
    }

    private static void dueCosts(String what, TailPatches x, int cheapest, int made) {
        due(what + ": cheapest(0)", x.cheapest(0), cheapest);
        due(what + ": cheapest(1)", x.cheapest(1), made);
    }

    // ---- COST, CHEAPEST ----

    /** "COST of ORIGINS: 2 for each EXTRA SPOT" */
    private static void extraSpotsCost2() {
        dueCosts("no SPOT", new TailPatches(), 0, 0);
        dueCosts("no NEW", Calls.with(Calls.row(1, 2), Calls.row()), 0, 0);
        dueCosts("one, no OLD", Calls.with(Calls.row(), Calls.row(7)), 2, 2);
        dueCosts("64, no OLD", Calls.with(Calls.row(), Calls.rising(0, 64)), 128, 128);
    }

    /** "for each other one 1, if its DIFFERENCE is not 0" */
    private static void differencesCost1() {
        dueCosts("none", Calls.with(Calls.rising(1, 5), Calls.rising(1, 5)), 3, 3);
        dueCosts("one", Calls.with(Calls.rising(1, 5), Calls.row(1, 2, 9, 4, 5)), 4, 4);
        dueCosts("one of 255", Calls.with(Calls.rising(1, 5), Calls.row(1, 2, 2, 4, 5)), 4, 4);
        due("63 of 64", Calls.with(new int[64], Calls.rising(0, 64)).cheapest(0), 3 + 63);
        due("64 of 64", Calls.with(new int[64], Calls.rising(1, 64)).cheapest(0), 3 + 64);
    }

    /** "and 3, unless the SPOT just ahead is from the PLACE just ahead" */
    private static void jumpsCost3() {
        dueCosts("the first", Calls.with(Calls.row(1, 2, 3), Calls.row(1, 2, 3)), 3, 3);
        dueCosts("the first is changed", Calls.with(Calls.rising(1, 4), Calls.row(9, 2, 3, 4)), 4, 4);
        dueCosts("the first is from PLACE 1", Calls.with(Calls.row(9, 1, 2, 3), Calls.row(1, 2, 3)), 3, 3);
        dueCosts("the first is EXTRA", Calls.with(Calls.row(2, 3, 4), Calls.row(9, 2, 3, 4)), 5, 5);
        TailPatches x = Calls.with(Calls.rising(1, 8), Calls.row(5, 6, 7, 8, 1, 2, 3, 4));
        dueCosts("two COPIES", x, 6, 6);
        Calls.fresh(x, 5, 6, 7, 8, 5, 6, 7, 8);
        dueCosts("the same COPY twice", x, 6, 6);
        Calls.fresh(x, 1, 2, 3, 0, 6, 7, 8);
        dueCosts("an EXTRA SPOT between; or changed", x, 7, 8);
    }

    /** "CHEAPEST: the least COST of ORIGINS that there are for NEW" */
    private static void cheapestIsTheLeast() {
        due("one ALIKE: EXTRA", Calls.with(Calls.row(1), Calls.row(1)).cheapest(0), 2);
        due("two ALIKE: a COPY", Calls.with(Calls.row(1, 2), Calls.row(1, 2)).cheapest(0), 3);
        due("two, one ALIKE: both EXTRA or a COPY", Calls.with(Calls.row(1, 2), Calls.row(1, 9)).cheapest(0), 4);
        due("three unlike", Calls.with(Calls.row(1, 2, 3), Calls.row(9, 9, 9)).cheapest(0), 6);
        due("four unlike: changed", Calls.with(Calls.row(1, 2, 3, 4), Calls.row(9, 9, 9, 9)).cheapest(0), 7);
        due("OLD is shorter", Calls.with(Calls.row(1, 2, 3), Calls.row(1, 2, 3, 9, 9)).cheapest(0), 7);
        due("twice the same", Calls.with(Calls.row(1, 2, 3), Calls.row(1, 2, 3, 1, 2, 3)).cheapest(0), 6);
        due("the last PLACES", Calls.with(Calls.rising(0, 64), Calls.row(61, 62, 63)).cheapest(0), 3);
        due("back to PLACE 0", Calls.with(Calls.row(5, 6, 7), Calls.row(6, 7, 5, 6)).cheapest(0), 6);
    }

    /** "without PLACES that are BARRED" */
    private static void cheapestWithoutBarredOnes() {
        TailPatches x = Calls.with(Calls.row(1, 2, 3, 4), Calls.row(1, 2, 3, 4));
        due("none BARRED", x.cheapest(0), 3);
        x.bar(3, 1);
        due("PLACE 3", x.cheapest(0), 5);
        x.bar(1, 1);
        due("PLACES 1, 3", x.cheapest(0), 8);
        x.bar(0, 1);
        x.bar(2, 1);
        dueCosts("all", x, 8, 8);
        TailPatches y = Calls.with(Calls.rising(1, 5), Calls.row(1, 9, 3, 4, 5));
        y.bar(1, 1);
        due("a changed SPOT's PLACE", y.cheapest(0), 7);
    }

    // ---- APART ----

    /** "APART: the fewest BYTES that are changed, put in, taken out for OLD to be NEW." */
    private static void apart() {
        due("nothing", new TailPatches().apart(), 0);
        due("put in", Calls.with(Calls.row(), Calls.row(1, 2)).apart(), 2);
        due("taken out", Calls.with(Calls.row(1, 2), Calls.row()).apart(), 2);
        due("64 put in", Calls.with(Calls.row(), new int[64]).apart(), 64);
        due("64 taken out", Calls.with(new int[64], Calls.row()).apart(), 64);
        due("64 changed", Calls.with(new int[64], Calls.rising(1, 64)).apart(), 64);
        due("the same", Calls.with(Calls.rising(1, 64), Calls.rising(1, 64)).apart(), 0);
        due("the first taken out, one put in behind", Calls.with(Calls.rising(0, 64), Calls.rising(1, 64)).apart(), 2);
        due("one changed", Calls.with(Calls.row(1, 2, 3), Calls.row(1, 9, 3)).apart(), 1);
        due("one put in within", Calls.with(Calls.row(1, 3), Calls.row(1, 2, 3)).apart(), 1);
        due("one taken out within", Calls.with(Calls.row(1, 2, 3), Calls.row(1, 3)).apart(), 1);
        due("exchanged", Calls.with(Calls.row(1, 2), Calls.row(2, 1)).apart(), 2);
        TailPatches x = Calls.with(Calls.row(1, 2, 3), Calls.row(1, 2, 3));
        x.bar(0, 1);
        due("BARRED ones are OLD's, too", x.apart(), 0);
    }

    // ---- STAY ----

    private static void dueStay(String recipe, int want) {
        TailPatches x = new TailPatches();
        Calls.old(x, Calls.rising(0, 64));
        due(recipe, Calls.recipe(x, 0, recipe), x.length(0));
        due("stay: " + recipe, x.stay(0), want);
    }

    /** "of a PATCH's COPIES in order some, each of which begins at the last one's end or behind it (PLACES)" */
    private static void eachBehindTheLast() {
        dueStay("take 2 at 0;say 1;take 2 at 2", 4);
        dueStay("take 2 at 0;say 1;take 2 at 1", 2);
        dueStay("take 2 at 0;take 2 at 3", 4);
        dueStay("take 2 at 5;take 2 at 3", 2);
        dueStay("take 2 at 5;take 2 at 5", 2);
        dueStay("take 1 at 63;take 1 at 0", 1);
        dueStay("take 4 at 0;say 1;take 1 at 3", 4);
        dueStay("take 4 at 0;say 1;take 1 at 4", 5);
        dueStay("take 1 at 3;say 1;take 4 at 3", 4);
        dueStay("take 1 at 3;say 1;take 4 at 4", 5);
    }

    /** "the most SPOTS of such" */
    private static void theMostSpots() {
        dueStay("take 3 at 20;take 1 at 0;take 1 at 2;take 1 at 4", 3);
        dueStay("take 3 at 20;take 2 at 0;take 2 at 4", 4);
        dueStay("take 2 at 0;take 5 at 10;take 3 at 3;take 3 at 8;take 2 at 20", 10);
        dueStay("say 1,2", 0);
        dueStay("take 64 at 0", 64);
        TailPatches x = new TailPatches();
        x.make(0);
        due("no COPY", x.stay(0), 0);
        Calls.sealed(x, 1, 4, 9, 3, 9, 4, 0, 1, 0, 4, 0, 0, 1, 1, 0, 2, 1, 0, 1, 3, 0);
        // PLACE 0; 3, of 0 SPOTS; 2; 4 is OLD's end.
        due("a COPY behind OLD is a FLAW", x.stay(1), -1);
        Calls.sealed(x, 1, 4, 9, 3, 9, 4, 0, 1, 0, 4, 0, 0, 1, 1, 0, 0, 1, 0, 1, 3, 0);
        Calls.dueParts("COPIES 0, none, 2, 3", x, 1, Calls.row(0, 1, 0), Calls.row(-1, 0, 0), Calls.row(2, 1, 0),
                Calls.row(3, 1, 0));
        due("one of 0 SPOTS between", x.stay(1), 3);
    }

    // ---- TO SAVE ----

    private static void dueSave(String what, TailPatches x, int ways, int index, int value) {
        due(what + ": save(0, 0)", x.save(0, 0), ways);
        due(what + ": save(0, 1)", x.save(0, 1), index);
        due(what + ": save(0, 2)", x.save(0, 2), value);
    }

    private static TailPatches toBeSaved() {
        TailPatches x = new TailPatches();
        Calls.old(x, 1, 2);
        // 2 14 1 4 1 0 1 0 0 0 0 and its CHECK.
        Calls.sealed(x, 0, 2, 14, 1, 4, 1, 0, 1, 0, 0, 0, 0);
        return x;
    }

    /** "one BYTE of it is another one, by which it has no FLAW for OLD": each BYTE of it */
    private static void oneByteSaves() {
        TailPatches x = toBeSaved();
        due("it has none", x.flawOf(0), 0);
        int[] whole = new int[13];
        for (int i = 0; i < 13; i++) {
            whole[i] = x.patch(0, i);
        }
        for (int i = 0; i < 13; i++) {
            TailPatches y = toBeSaved();
            y.spoil(0, i, whole[i] == 0 ? 200 : 0);
            due("BYTE " + i + " is spoiled", y.flawOf(0), 2);
            due("BYTE " + i + ": there is a way", y.save(0, 0) >= 1 ? 1 : 0, 1);
            due("BYTE " + i + ": it is not behind that", y.save(0, 1) <= i ? 1 : 0, 1);
            y.spoil(0, y.save(0, 1), y.save(0, 2));
            due("BYTE " + i + " is saved", y.flawOf(0), 0);
        }
    }

    /** "another one": a PATCH without a FLAW can't be saved; one that two BYTES spoil, or of another OLD, neither. */
    private static void nothingToSave() {
        TailPatches x = toBeSaved();
        dueSave("without a FLAW", x, 0, -1, -1);
        x.spoil(0, 4, 200);
        x.spoil(0, 6, 100);
        dueSave("two BYTES are others", x, 0, -1, -1);
        x = toBeSaved();
        Calls.old(x, 7, 7);
        dueSave("of another OLD", x, 0, -1, -1);
        Calls.bring(x, 0, 1);
        dueSave("one BYTE", x, 0, -1, -1);
        Calls.bring(x, 0, 0, 1);
        dueSave("two BYTES", x, 0, -1, -1);
        Calls.bring(x, 0, new int[300]);
        dueSave("300 BYTES of 0", x, 0, -1, -1);
    }

    /** "how many ways there are .., the lowest INDEX": the CHECK's last BYTE, or one ahead of it */
    private static void waysToSave() {
        TailPatches x = new TailPatches();
        x.make(0);
        x.spoil(0, 8, 145);
        // 145 is the CHECK with one more: the WAY of no EXTRA BYTES 1, or that of no DIFFERENCES, if 3 times it is 1.
        dueSave("by the WAY or by the CHECK", x, 2, 6, 1);
        x.spoil(0, 8, 147);
        dueSave("by a WAY or by the CHECK", x, 2, 5, 1);
        x.undo();
        x.undo();
        dueSave("as it was", x, 0, -1, -1);
    }

    /** A PATCH of NEW's one BYTE from OLD's, EXTRA, whose own CHECK is that. */
    private static int[] withCheck(int check) {
        int[] front = new int[0];
        for (int i = 0; i < 124 * 124 && (i == 0 || Calls.check(front) != check); i++) {
            int old = i / 124;
            int fresh = i % 124;
            front = Calls.row(1, 3 + old, 1, 3 + fresh, 1, 0, 0, 1, 0, 0, fresh);
        }
        due("there is one with the CHECK " + check, Calls.check(front), check);
        return front;
    }

    private static void dueSaveAsAllTried(String what, int[] old, int[] patch) {
        TailPatches x = new TailPatches();
        Calls.old(x, old);
        Calls.bring(x, 0, patch);
        Model model = new Model();
        model.files[0] = old;
        model.slots[0] = patch;
        dueSave(what, x, model.save(0, 0), model.save(0, 1), model.save(0, 2));
    }

    /** "one BYTE of it is another one": the CHECK's own, too, whatever it is; held against all BYTES tried */
    private static void checksAreSaved() {
        for (int check : new int[] {0, 1, 2, 127, 128, 254, 255, 256}) {
            int[] front = withCheck(check);
            int[] whole = java.util.Arrays.copyOf(front, 13);
            whole[11] = check / 256;
            whole[12] = check % 256;
            for (int[] spoil : new int[][] {{11, 1 - whole[11]}, {11, 2}, {11, 255}, {12, 255 - whole[12]}, {12, 9}, {10, 200},
                {3, 0}}) {
                int[] patch = whole.clone();
                patch[spoil[0]] = spoil[1];
                dueSaveAsAllTried("CHECK " + check + ", BYTE " + spoil[0] + " " + spoil[1], Calls.row(front[1] - 3), patch);
            }
        }
    }

    /** "one BYTE of it is another one": 255 can be, 256 can not */
    private static void bytesThatSaveHaveAnEnd() {
        for (int last = 253; last <= 256; last++) {
            int check = Calls.check(last);
            int[] front = check < 128 ? Calls.row(0, 1, 1, check, 1, 0, 0, 1, 0, 0, last)
                    : Calls.row(0, 1, 1, 128 + check % 128, check / 128, 1, 0, 0, 1, 0, 0, last);
            int n = front.length;
            int[] patch = java.util.Arrays.copyOf(front, n + 2);
            patch[n] = Calls.check(front) / 256;
            patch[n + 1] = Calls.check(front) % 256;
            patch[n - 1] = 7;
            dueSaveAsAllTried("a BYTE " + last, Calls.row(), patch);
        }
    }

    /** "one BYTE of it": of 300 BYTES, too */
    private static void longPatchesAreSaved() {
        int[] front = new int[298];
        System.arraycopy(Calls.row(0, 1, 0, 1, 97), 0, front, 0, 5);
        int[] patch = java.util.Arrays.copyOf(front, 300);
        patch[298] = Calls.check(front) / 256;
        patch[299] = Calls.check(front) % 256;
        for (int i : new int[] {297, 299, 3}) {
            int[] spoiled = patch.clone();
            spoiled[i] = spoiled[i] == 1 ? 2 : 1;
            dueSaveAsAllTried("300 BYTES, BYTE " + i, Calls.row(), spoiled);
        }
    }

    // ---- BEST ----

    /** "BEST: the LEAST with which a PATCH made now would have the fewest BYTES; the lowest." */
    private static void bestIsTheLowest() {
        TailPatches x = new TailPatches();
        due("nothing: 2", x.best(0), 2);
        due("nothing: 9 BYTES", x.best(1), 9);
        x = Calls.with(Calls.rising(10, 20), Calls.rising(15, 9));
        due("a MATCH of 9: all are the same", x.best(0), 2);
        for (int term = 2; term <= 9; term++) {
            x.terms(0, term);
            due("LEAST " + term + " makes as many", x.make(0), x.best(1));
            due("LEAST " + term + " is not BEST's", x.best(0), 2);
        }
        x = Calls.with(Calls.rising(10, 20), Calls.row(7, 15, 16, 8));
        due("a MATCH of 2 that costs", x.best(0), 3);
        x = Calls.with(Calls.row(1, 1, 1, 1, 1, 1, 1, 1, 7, 7, 7, 7, 7, 7, 7, 7), Calls.filled(7, 20));
        due("a MATCH of 8 that costs", x.best(0), 9);
        int[] bytes = new int[10];
        for (int least = 2; least <= 9; least++) {
            x.terms(0, least);
            bytes[least] = x.make(0);
        }
        due("LEAST 8 makes more", bytes[8] > bytes[9] ? 1 : 0, 1);
        due("BEST's BYTES", x.best(1), bytes[9]);
    }

    public static void main(String[] args) {
        extraSpotsCost2();
        differencesCost1();
        jumpsCost3();
        cheapestIsTheLeast();
        cheapestWithoutBarredOnes();
        apart();
        eachBehindTheLast();
        theMostSpots();
        oneByteSaves();
        nothingToSave();
        waysToSave();
        checksAreSaved();
        bytesThatSaveHaveAnEnd();
        longPatchesAreSaved();
        bestIsTheLowest();
        Calls.close();
    }
}
