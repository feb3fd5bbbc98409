import java.util.Arrays;

/** Terms, III: each sentence that tells where something ends has a test of its own, in the document's order. */
public final class TakingBoundsTest {
    private static void due(String call, int got, int want) {
        Calls.due(call, got, want);
    }

    private static TailPatches withOld(int... bytes) {
        TailPatches x = new TailPatches();
        Calls.old(x, bytes);
        return x;
    }

    /** The FLAW of these BYTES, sealed, for OLD 1, 2 (its size and CHECK are 2, 14), and when READ alone. */
    private static void flaws(int forOld, int alone, int... front) {
        TailPatches x = withOld(1, 2);
        Calls.sealed(x, 0, front);
        String what = Arrays.toString(front);
        due(what + ": flawOf", x.flawOf(0), forOld);
        due(what + ": READ alone", x.parts(0) >= 0 ? 0 : 1, alone == 0 ? 0 : 1);
        x.join(0, 0, 1);
        due(what + ": FLAW when READ alone", x.flaw(), alone);
    }

    private static void flaw(int both, int... front) {
        flaws(both, both, front);
    }

    /** One SPOT from PLACE 0 (BYTE 1, CHECK 4), these BYTES told of its DIFFERENCE, none EXTRA. */
    private static void flawOfOne(int want, int... differences) {
        flaw(want, joined(Calls.row(2, 14, 1, 4, 1, 0, 1, 0), differences));
    }

    private static int[] joined(int[] one, int... other) {
        int[] all = Arrays.copyOf(one, one.length + other.length);
        System.arraycopy(other, 0, all, one.length, other.length);
        return all;
    }

    // ---- FLAWS ----

    /** "1 it has fewer than 2 BYTES" */
    private static void flaw1() {
        TailPatches x = withOld(1, 2);
        for (int b : new int[] {0, 1, 255}) {
            Calls.bring(x, 0, b);
            due("one BYTE", x.flawOf(0), 1);
        }
        Calls.bring(x, 0, 9, 9);
        due("two BYTES, not the CHECK", x.flawOf(0), 2);
        Calls.bring(x, 0, 0, 1);
        due("two BYTES, the CHECK of none", x.flawOf(0), 3);
    }

    /** "or else 2 the last two are not the CHECK of those ahead" */
    private static void flaw2() {
        int[] whole = {2, 14, 0, 1, 0, 0, 0, 0, 0};
        int check = Calls.check(Arrays.copyOf(whole, 7));
        whole[7] = check / 256;
        whole[8] = check % 256;
        TailPatches x = withOld(1, 2);
        Calls.bring(x, 0, whole);
        due("both are", x.flawOf(0), 0);
        x.spoil(0, 7, 1 - whole[7]);
        due("the first is not", x.flawOf(0), 2);
        x.undo();
        x.spoil(0, 8, (whole[8] + 1) % 256);
        due("the second is not", x.flawOf(0), 2);
        x.undo();
        x.spoil(0, 3, 2);
        due("those ahead are others", x.flawOf(0), 2);
        Calls.bring(x, 0, 65, 0, 0);
        due("ahead of all that is gone through", x.flawOf(0), 2);
        Calls.bring(x, 0, 253, 1, 0);
        due("the CHECK 256", x.flawOf(0), 3);
        Calls.bring(x, 0, 253, 0, 255);
        due("not 255", x.flawOf(0), 2);
        Calls.bring(x, 0, 254, 1, 1);
        due("257 is not the CHECK 0", x.flawOf(0), 2);
        Calls.bring(x, 0, 254, 0, 0);
        due("the CHECK 0", x.flawOf(0), 3);
    }

    /** "Then those ahead alone are gone through": the CHECK's BYTES tell nothing. */
    private static void thoseAheadAlone() {
        flaw(3);
        flaw(3, 128);
        flaw(3, 2, 14, 0, 1, 0, 0);
        flawOfOne(3, 0, 0);
        flawOfOne(3, 0);
    }

    /** "3 a NUMBER has no end within two BYTES" */
    private static void numbersEndWithinTwo() {
        int[] numbers = {2, 14, 1, 4, 1, 0, 1, 0};
        for (int i = 0; i < numbers.length; i++) {
            int[] front = joined(Arrays.copyOf(numbers, i), 128 + numbers[i], 128, 0, 0, 0, 0, 0, 0, 0, 0);
            flaw(3, front);
        }
        flawOfOne(3, 128, 128, 0, 0);
        flawOfOne(3, 0, 0, 128, 128);
        flawOfOne(3, 1, 129, 128, 0);
        flawOfOne(3, 1, 0, 129, 128, 5, 0);
        flawOfOne(3, 2, 129, 128, 0, 0);
        flaw(3, 128, 255, 0);
    }

    /** "or within these; a BYTE that is told is not there": a PATCH cut off anywhere */
    private static void cutOffAnywhere() {
        int out = Calls.check(1, 2, 7, 2, 9, 9);
        int[] whole = {2, 14, 6, out < 128 ? out : 128 + out % 128, out / 128, 3, 0, 2, 1, 1, 1, 0, 0, 0, 2, 1, 3, 2, 1, 7,
            2, 9};
        if (out < 128) {
            System.arraycopy(whole, 5, whole, 4, whole.length - 5);
            whole = Arrays.copyOf(whole, whole.length - 1);
        }
        flaw(0, whole);
        for (int n = 0; n < whole.length; n++) {
            flaw(3, Arrays.copyOf(whole, n));
        }
        flawOfOne(3, 0);
        flawOfOne(3, 1, 0, 1);
        flawOfOne(3, 2, 1);
        flaw(3, 2, 14, 2, 14, 1, 0, 2, 0, 0, 0);
        flaw(3, 2, 14, 2, 14, 1, 0, 2, 0, 1, 0, 2, 5);
        flaw(0, 2, 14, 1, 12, 1, 0, 0, 1, 0, 0, 9);
        flaw(3, 2, 14, 1, 12, 1, 0, 0, 1, 0, 0);
        flaw(3, 2, 14, 1, 12, 1, 0, 0, 1, 0, 1, 0, 1);
        flaw(3, 2, 14, 1, 12, 1, 0, 0, 1, 0, 1, 0);
        flaw(3, 2, 14, 1, 12, 1, 0, 0, 1, 0, 2, 1);
        flaw(3, 2, 14, 1, 12, 1, 0, 0, 1, 0, 2);
    }

    /** "5 OLD's size .. is above 64 (once that is known)" */
    private static void oldsSize() {
        flaw(5, 65);
        flaw(5, 193, 0);
        flaw(5, 255, 127);
        flaw(5, 65, 128, 128);
        flaw(3, 64);
        flaw(3, 192, 0);
        flaws(4, 3, 64, 14);
        flaws(4, 0, 64, 14, 0, 1, 0, 0, 0);
        TailPatches x = withOld(new int[64]);
        Calls.sealed(x, 0, 64, 1, 0, 1, 0, 0, 0);
        due("an OLD of 64, all of 0, has another CHECK", x.flawOf(0), Calls.check(new int[64]) == 1 ? 0 : 4);
        Calls.recipe(x, 0, "take 64 at 0");
        due("64 of 64", x.flawOf(0), 0);
    }

    /** "NEW's size is above 64 (once that is known)" */
    private static void newsSize() {
        flaw(5, 2, 14, 65);
        flaw(5, 2, 14, 193, 0);
        flaw(5, 2, 14, 65, 128, 128);
        flaw(3, 2, 14, 64);
        TailPatches y = withOld(1, 2);
        Calls.recipe(y, 0, "take 2 at 0;say 1");
        Calls.sealed(y, 1, 2, 14, 65);
        due("a PATCH without a FLAW, READ ahead", y.flawOf(0), 0);
        due("NEW's size, whatever was READ ahead", y.flawOf(1), 5);
        TailPatches x = withOld(1, 2);
        int check = Calls.check(new int[64]);
        Calls.sealed(x, 0, joined(check < 128 ? Calls.row(2, 14, 64, check) : Calls.row(2, 14, 64, 128 + check % 128,
                check / 128), 1, 0, 0, 64, 0, 1, 64));
        due("64 EXTRA ones", x.flawOf(0), 0);
        due("64 come out", x.apply(0), 64);
    }

    /** "4 (for OLD) OLD's size, OLD's CHECK (once both are known) are not those it has" */
    private static void anotherOld() {
        flaws(4, 0, 3, 14, 0, 1, 0, 0, 0);
        flaws(4, 0, 1, 14, 0, 1, 0, 0, 0);
        flaws(4, 0, 2, 15, 0, 1, 0, 0, 0);
        flaws(4, 0, 2, 13, 0, 1, 0, 0, 0);
        flaws(4, 0, 2, 143, 2, 0, 1, 0, 0, 0);
        flaw(3, 3);
        flaw(3, 3, 128);
        flaws(4, 3, 3, 14);
        flaws(4, 5, 2, 15, 65);
        flaws(4, 5, 2, 15, 1, 4, 1, 1, 1, 0);
        flaw(5, 65, 15);
        TailPatches x = withOld(1, 2);
        Calls.sealed(x, 0, 2, 14, 0, 1, 0, 0, 0);
        due("it is for this one", x.flawOf(0), 0);
        Calls.old(x, 2, 255);
        due("another OLD of size 2", x.flawOf(0), 4);
        Calls.old(x, 0, 5);
        due("another OLD with the same size and CHECK", x.flawOf(0), 0);
    }

    /** "5 a PART (once its three NUMBERS are known) has a COPY (of 0 SPOTS, too) that begins at a PLACE below 0" */
    private static void copiesBeginAt0() {
        flaw(3, 2, 14, 1, 4, 1, 1, 1);
        flaw(5, 2, 14, 1, 4, 1, 1, 1, 0);
        flaw(5, 2, 14, 1, 12, 1, 1, 0, 1, 0, 0, 9);
        flaw(5, 2, 14, 2, 14, 2, 0, 1, 0, 3, 1, 0, 1, 2, 0);
        flaw(0, 2, 14, 2, 13, 2, 0, 1, 0, 1, 1, 0, 1, 2, 0);
        flaw(5, 2, 14, 1, 4, 1, 255, 127, 1, 0);
        flaw(0, 2, 14, 1, 12, 1, 0, 0, 1, 0, 0, 9);
    }

    /** "or ends behind OLD's size" */
    private static void copiesEndWithOld() {
        flaw(0, 2, 14, 2, 14, 1, 0, 2, 0, 1, 2, 0);
        flaw(3, 2, 14, 3, 0, 1, 0, 3);
        flaw(5, 2, 14, 3, 0, 1, 0, 3, 0);
        flaw(0, 2, 14, 1, 5, 1, 2, 1, 0, 1, 1, 0);
        flaw(5, 2, 14, 2, 0, 1, 2, 2, 0);
        flaw(5, 2, 14, 1, 0, 1, 4, 1, 0);
        flaw(0, 2, 14, 1, 12, 1, 4, 0, 1, 0, 0, 9);
        flaw(5, 2, 14, 1, 12, 1, 6, 0, 1, 0, 0, 9);
        flaw(5, 2, 14, 1, 0, 1, 254, 127, 1, 0);
        flaw(5, 2, 14, 1, 0, 1, 0, 255, 127, 0);
    }

    /** "or there are more SPOTS than NEW has" */
    private static void noMoreSpotsThanNew() {
        flaw(3, 2, 14, 1, 4, 1, 0, 2);
        flaw(5, 2, 14, 1, 4, 1, 0, 2, 0);
        flaw(5, 2, 14, 1, 4, 1, 0, 1, 1);
        flaw(5, 2, 14, 1, 4, 1, 0, 0, 2);
        flaw(5, 2, 14, 1, 4, 1, 0, 0, 255, 127);
        flaw(5, 2, 14, 0, 1, 1, 0, 1, 0);
        flaw(5, 2, 14, 0, 1, 1, 0, 0, 1);
        flaw(5, 2, 14, 1, 4, 2, 0, 1, 0, 1, 1, 0);
        flaw(5, 2, 14, 1, 4, 2, 0, 1, 0, 0, 0, 1);
        flaw(5, 2, 14, 1, 4, 3, 0, 1, 1);
        flaw(3, 2, 14, 1, 4, 2, 0, 1, 0, 0, 0);
    }

    /** "5 there are fewer (once all PARTS are known)" */
    private static void noFewerSpotsThanNew() {
        flaw(5, 2, 14, 1, 4, 0);
        flaw(5, 2, 14, 1, 4, 1, 0, 0, 0);
        flaw(5, 2, 14, 3, 0, 1, 0, 1, 1, 0, 0, 0, 9);
        flaw(3, 2, 14, 3, 0, 2, 0, 1, 1);
        flaw(3, 2, 14, 3, 0, 2, 0, 1, 1, 0, 0);
        flaw(5, 2, 14, 3, 0, 2, 0, 1, 1, 0, 0, 0);
    }

    /** "5 a WAY is above 2" */
    private static void waysHaveAnEnd() {
        flawOfOne(5, 3);
        flawOfOne(5, 3, 0, 0);
        flawOfOne(5, 127);
        flawOfOne(5, 131, 0);
        flawOfOne(5, 128, 1);
        flawOfOne(5, 0, 0, 3);
        flawOfOne(5, 0, 0, 130, 1);
        flaw(5, 2, 14, 0, 1, 0, 3, 0);
        flaw(5, 2, 14, 0, 1, 0, 0, 3);
        flaw(0, 2, 14, 0, 1, 0, 2, 2);
        flaw(0, 2, 14, 0, 1, 0, 130, 0, 129, 0);
    }

    /** "how many are 0 .. is more than are left to be told" (0 of them are taken) */
    private static void zerosHaveAnEnd() {
        flawOfOne(0, 1, 1, 0);
        flawOfOne(5, 1, 2, 0);
        flawOfOne(5, 1, 255, 127);
        flawOfOne(0, 1, 0, 1, 0, 0);
        int out = Calls.check(5, 0, 6);
        int[] head = {2, 14, 3, out < 128 ? out : 128 + out % 128};
        head = out < 128 ? head : joined(head, out / 128);
        head = joined(head, 1, 0, 0, 3, 0);
        flaw(0, joined(head, 1, 0, 1, 5, 1, 1, 6));
        flaw(5, joined(head, 1, 0, 1, 5, 3));
        flaws(7, 0, joined(head, 1, 0, 1, 5, 2));
        flaw(5, joined(head, 1, 4));
        flaws(7, 0, joined(head, 1, 3));
    }

    /** "are not 0 .. is more than are left to be told, or .. is 0" */
    private static void othersHaveEnds() {
        flawOfOne(5, 1, 0, 0, 0);
        flawOfOne(5, 1, 0, 2, 0, 0);
        flawOfOne(5, 1, 0, 2);
        flawOfOne(3, 1, 0, 1);
        flawOfOne(5, 1, 0, 128, 0);
        int[] head = {2, 14, 3, Calls.check(0, 5, 6), 1, 0, 0, 3, 0};
        due("a CHECK of one BYTE", head[3] < 128 ? 1 : 0, 1);
        flaw(0, joined(head, 1, 1, 2, 5, 6));
        flaw(5, joined(head, 1, 1, 3, 5, 6, 7));
        flaw(5, joined(head, 1, 1, 0, 2, 5, 6));
        flaw(3, joined(head, 1, 1, 2, 5));
        flaw(0, joined(head, 1, 1, 1, 5, 0, 1, 6));
        flaw(5, joined(head, 1, 1, 1, 5, 0, 2, 6));
    }

    /** "are the same is more than are left to be told, or .. is 0" */
    private static void sameOnesHaveEnds() {
        flawOfOne(0, 2, 1, 0, 0);
        flawOfOne(5, 2, 2, 0, 0);
        flawOfOne(5, 2, 2);
        flawOfOne(5, 2, 0, 0, 0);
        flawOfOne(5, 2, 0);
        flawOfOne(5, 2, 128, 0, 0);
        flawOfOne(3, 2, 1);
        flaw(0, 2, 14, 2, 14, 1, 0, 2, 0, 2, 2, 0, 0);
        flaw(5, 2, 14, 2, 14, 1, 0, 2, 0, 2, 3, 0, 0);
        flaw(0, 2, 14, 2, 14, 1, 0, 2, 0, 2, 1, 0, 1, 0, 0);
        flaw(5, 2, 14, 2, 14, 1, 0, 2, 0, 2, 1, 0, 2, 0, 0);
        flaw(5, 2, 14, 2, 14, 1, 0, 2, 0, 2, 1, 0, 0, 0, 0);
    }

    /** "6 BYTES are left" */
    private static void noBytesAreLeft() {
        flaw(6, 2, 14, 0, 1, 0, 0, 0, 0);
        flaw(6, 2, 14, 0, 1, 0, 0, 0, 255, 255);
        flawOfOne(6, 0, 0, 0, 0);
        flawOfOne(6, 0, 0, 1, 0);
        flaw(6, 2, 14, 0, 99, 0, 0, 0, 0);
    }

    /** "7 (for OLD) the CHECK of what comes out is not NEW's." */
    private static void whatComesOutHasNewsCheck() {
        flaws(7, 0, 2, 14, 0, 2, 0, 0, 0);
        flaws(7, 0, 2, 14, 0, 0, 0, 0, 0);
        flaws(7, 0, 2, 14, 0, 255, 127, 0, 0, 0);
        flaws(7, 0, 2, 14, 1, 4, 1, 0, 1, 0, 0, 1, 0);
        flaw(0, 2, 14, 1, 5, 1, 0, 1, 0, 0, 1, 0);
        TailPatches x = withOld(253);
        Calls.sealed(x, 0, 1, 128, 2, 1, 128, 2, 1, 0, 1, 0, 0, 0, 0);
        due("a CHECK of 256", x.flawOf(0), 0);
    }

    /** "(NUMBERS of two BYTES for which one would do .. are taken.)" */
    private static void longNumbersAreTaken() {
        flaw(0, 130, 0, 142, 0, 129, 0, 132, 0, 129, 0, 128, 0, 129, 0, 128, 0, 129, 0, 129, 0, 128, 0);
        flaw(0, 130, 0, 142, 0, 129, 0, 132, 0, 129, 0, 128, 0, 129, 0, 128, 0, 130, 0, 129, 0, 0, 128, 0);
    }

    /** "BYTES of 0 among those that are not 0" */
    private static void zerosAmongOthersAreTaken() {
        flaw(0, 2, 14, 2, 14, 1, 0, 2, 0, 1, 0, 2, 0, 0, 0);
        flaw(0, 2, 14, 2, 14, 1, 0, 2, 0, 1, 0, 1, 0, 1, 0);
    }

    /** "other WAYS than the best" */
    private static void otherWaysAreTaken() {
        int[][] rows = {{0, 0, 0}, {1, 2}, {2, 2, 0}};
        for (int way = 0; way < 3; way++) {
            TailPatches x = withOld(1, 2);
            Calls.sealed(x, 1, joined(joined(Calls.row(2, 14, 2, 14, 1, 0, 2, 0), rows[way]), way));
            due("WAY " + way, x.flawOf(1), 0);
            due("WAY " + way + " of the DIFFERENCES", x.way(1, 0), way);
            due("WAY " + way + " of none", x.way(1, 1), way);
        }
    }

    /** "PARTS of 0 SPOTS are taken" */
    private static void emptyPartsAreTaken() {
        flaw(0, 2, 14, 0, 1, 1, 0, 0, 0, 0, 0);
        flaw(0, 2, 14, 0, 1, 3, 0, 0, 0, 2, 0, 0, 2, 0, 0, 0, 0);
        flaw(0, 2, 14, 1, 4, 3, 0, 0, 0, 0, 1, 0, 0, 0, 0, 0, 0, 0);
        TailPatches x = withOld();
        Calls.sealed(x, 0, joined(Calls.row(0, 1, 0, 1, 97), new int[3 * 97 + 2]));
        due("97 of them, 300 BYTES", x.flawOf(0), 0);
        due("300 BYTES", x.length(0), 300);
        due("97 PARTS", x.parts(0), 97);
    }

    /** "SEEKS are from the PLACE behind the COPY of the PART ahead, of 0, too; from 0 for the first." */
    private static void seeksAreRead() {
        TailPatches x = withOld(Calls.rising(0, 8));
        int c = Calls.check(Calls.rising(0, 8));
        int[] head = joined(c < 128 ? Calls.row(8, c) : Calls.row(8, 128 + c % 128, c / 128), 3, 0, 4);
        Calls.sealed(x, 0, joined(head, 6, 1, 0, 4, 0, 0, 2, 1, 0, 13, 1, 0, 0, 0, 0, 0, 0));
        // 3; two behind 4, of 0 SPOTS: 6; one behind that: 7; seven ahead of 8: 1.
        Calls.dueParts("SEEKS", x, 0, Calls.row(3, 1, 0), Calls.row(-1, 0, 0), Calls.row(7, 1, 0), Calls.row(1, 1, 0));
    }

    /** "What comes out: of a COPY OLD's BYTES and the DIFFERENCES (modulo 256), then the EXTRA ones, PART by PART." */
    private static void whatComesOut() {
        TailPatches x = withOld(0, 255, 100);
        Calls.recipe(x, 0, "take 3 at 0 by 1;say 7;take 1 at 0 by 255;say 0,255");
        Calls.dueOut("modulo 256", x, 0, 1, 0, 101, 7, 255, 0, 255);
        Calls.recipe(x, 0, "say 9;take 1 at 1 by 255");
        Calls.dueOut("255 and 255", x, 0, 9, 254);
    }

    // ---- APPLIED ----

    private static void dueLoads(String what, String recipe, int frames, int loads, int held) {
        TailPatches x = withOld(Calls.rising(0, 64));
        x.terms(4, frames);
        Calls.recipe(x, 0, recipe);
        due(what + ": fine", x.apply(0) >= 0 ? 1 : 0, 1);
        due(what + ": loaded(0)", x.loaded(0), loads);
        due(what + ": loaded(1)", x.loaded(1), held);
        x.apply(0);
        due(what + ": none is held at first", x.loaded(0), loads);
    }

    /** "OLD is read by PAGES of 8 PLACES (0 .. 7, 8 .. 15, ..)" */
    private static void pagesHave8Places() {
        dueLoads("0 .. 7", "take 8 at 0", 2, 1, 1);
        dueLoads("7 and 8", "take 2 at 7", 2, 2, 2);
        dueLoads("8 .. 15", "take 8 at 8", 2, 1, 1);
        dueLoads("56 .. 63", "take 8 at 56", 1, 1, 1);
        dueLoads("55 and 56", "take 2 at 55", 2, 2, 2);
    }

    /** "the PLACES of all COPIES in order, and all once more" */
    private static void allOnceMore() {
        dueLoads("two PAGES, one FRAME, twice", "take 2 at 7", 1, 4, 1);
        dueLoads("one PAGE is not LOADED again", "take 2 at 0", 1, 1, 1);
        dueLoads("EXTRA ones are not read", "say 1,2,3", 1, 0, 0);
        dueLoads("not between, either", "take 1 at 0;say 1;take 1 at 1", 1, 1, 1);
    }

    /** "if as many as FRAMES are held, the one that was read the longest ago is held no more ahead of that" */
    private static void theOldestPageGoes() {
        // 0 1 0 2 (1 goes) . 0 1 (2 goes) 0 2 (1 goes)
        dueLoads("read, not LOADED, the longest ago", "take 1 at 0;take 1 at 8;take 1 at 0;take 1 at 16", 2, 5, 2);
        // 0 1 2 (0 goes) . 0 (1 goes) 1 (2 goes) 2 (0 goes)
        dueLoads("three by two", "take 1 at 0;take 1 at 8;take 1 at 16", 2, 6, 2);
        for (int frames = 1; frames <= 6; frames++) {
            StringBuilder text = new StringBuilder("take 1 at 0");
            for (int page = 1; page < frames; page++) {
                text.append(";take 1 at ").append(8 * page);
            }
            dueLoads("as many PAGES as FRAMES: " + frames, text.toString(), frames, frames, frames);
            text.append(";take 1 at ").append(8 * frames);
            dueLoads("one PAGE more: " + frames, text.toString(), frames, 2 * frames + 2, frames);
        }
        dueLoads("all", "take 64 at 0", 6, 16, 6);
    }

    /** "64 at most": as many COPIES as there can be, in ORDER, run, JOINED, told; held against the Model */
    private static void copiesOf64() {
        StringBuilder text = new StringBuilder("take 1 at 62");
        for (int i = 1; i < 21; i++) {
            text.append(";take 1 at ").append((62 + 37 * i) % 64).append(" by ").append(i % 3);
        }
        text.append(";again 43 back 21");
        Model model = new Model();
        model.files[0] = Calls.rising(0, 64);
        model.tape.addAll(text.chars().boxed().toList());
        TailPatches x = withOld(model.files[0]);
        due("64 COPIES", Calls.recipe(x, 0, text.toString()), model.recipe(0));
        due("64 COPIES", x.parts(0), 64);
        due("64: DROPPED", x.dropped(0, 0), model.dropped(0, 0));
        for (int i = 0; i <= 64; i++) {
            due("64: order(0, " + i + ")", x.order(0, i), model.order(0, i));
        }
        due("64: stay", x.stay(0), model.stay(0));
        due("64: part", x.part(0, 63, 0), model.part(0, 63, 0));
        x = withOld(model.files[0]);
        Calls.recipe(x, 0, text.toString());
        due("64: listed", x.listed(0), model.listed(0));
        for (int i = 0; i < model.listed(0); i += 7) {
            due("64: listing(0, " + i + ")", x.listing(0, i), model.listing(0, i));
        }
        due("64: loads", x.apply(0), model.apply(0));
        due("64: loads", x.loaded(0), model.loaded(0));
        due("64: begin", x.begin(0), 64);
        x.write(64);
        for (int i = 0; i < 64; i++) {
            due("64: the RUN as APPLIED", x.byteOf(0, i), model.byteOf(2, i));
        }
    }

    /** "DROPPED": one behind many others */
    private static void droppedBehindOthers() {
        StringBuilder text = new StringBuilder("take 1 at 63");
        for (int place = 62; place > 45; place--) {
            text.append(";take 1 at ").append(place);
        }
        text.append(";take 2 at 20 by 9;take 2 at 18");
        TailPatches x = withOld(Calls.rising(0, 64));
        due("twenty COPIES", Calls.recipe(x, 0, text.toString()), x.length(0));
        for (int i = 0; i < 18; i++) {
            due("twenty: order(0, " + i + ")", x.order(0, i), i);
        }
        due("twenty: the 19th is DROPPED", x.order(0, 18), 19);
        due("twenty: no other", x.order(0, 19), -1);
        due("twenty: DROPPED", x.dropped(0, 0), 1);
        due("twenty: its SPOTS", x.dropped(0, 1), 2);
        x.begin(0);
        x.write(22);
        int[] want = new int[22];
        for (int i = 0; i < 18; i++) {
            want[i] = 63 - i;
        }
        System.arraycopy(Calls.row(29, 30, 18, 19), 0, want, 18, 4);
        Calls.dueFile("twenty: the RUN", x, 0, want);
    }

    /** "JOIN": of 64 SPOTS */
    private static void joinedOf64() {
        int[] old = Calls.rising(0, 64);
        TailPatches x = withOld(old);
        Calls.recipe(x, 0, "take 32 at 32 by 1;take 32 at 0 by 2");
        x.apply(0);
        x.advance();
        Calls.recipe(x, 1, "take 20 at 44 by 3;take 44 at 0");
        due("joined", x.join(0, 1, 2), x.length(2));
        Calls.dueListing("64 SPOTS", x, 2, "take 20 at 12 by 5;take 32 at 32 by 1;take 12 at 0 by 2");
    }

    // ---- ORDER ----

    private static void dueOrder(String what, TailPatches x, int[] order, int copies, int spots) {
        for (int i = 0; i < order.length; i++) {
            due(what + ": order(0, " + i + ")", x.order(0, i), order[i]);
        }
        due(what + ": no other", x.order(0, order.length), -1);
        due(what + ": dropped(0, 0)", x.dropped(0, 0), copies);
        due(what + ": dropped(0, 1)", x.dropped(0, 1), spots);
    }

    private static void dueOrder(String recipe, int[] order, int copies, int spots) {
        TailPatches x = withOld(Calls.rising(0, 64));
        due(recipe + ": fine", Calls.recipe(x, 0, recipe) > 0 ? 1 : 0, 1);
        dueOrder(recipe, x, order, copies, spots);
    }

    /** "ORDER of the COPIES (of 1 SPOT and more" */
    private static void copiesOfNoneHaveNoOrder() {
        dueOrder("say 1;take 1 at 5", Calls.row(1), 0, 0);
        dueOrder("say 1", Calls.row(), 0, 0);
        TailPatches x = withOld();
        Calls.sealed(x, 0, 0, 1, 0, 1, 2, 0, 0, 0, 0, 0, 0, 0, 0);
        due("without a FLAW", x.flawOf(0), 0);
        dueOrder("two PARTS of 0 SPOTS", x, Calls.row(), 0, 0);
        x = withOld(1, 2);
        Calls.sealed(x, 0, 2, 14, 2, 14, 2, 0, 2, 0, 1, 0, 0, 1, 2, 0);
        due("without a FLAW", x.flawOf(0), 0);
        dueOrder("one of 0 SPOTS reads nothing of what another one writes", x, Calls.row(0), 0, 0);
    }

    /** "a COPY writes the PLACES that have the numbers of its SPOTS" */
    private static void whatACopyWrites() {
        dueOrder("take 2 at 9;take 2 at 0", Calls.row(1, 0), 0, 0);
        dueOrder("take 2 at 9;take 2 at 2", Calls.row(0, 1), 0, 0);
        dueOrder("take 2 at 4;take 1 at 2", Calls.row(0, 1), 0, 0);
        dueOrder("take 2 at 4;take 1 at 1", Calls.row(1, 0), 0, 0);
        dueOrder("take 2 at 4;say 1;take 1 at 2", Calls.row(0, 1), 0, 0);
        dueOrder("take 1 at 9;take 2 at 2;take 2 at 0", Calls.row(2), 2, 3);
    }

    /** "again and again, of those that are left, the first is next that writes no PLACE that another one that is left reads" */
    private static void theFirstIsNext() {
        dueOrder("take 1 at 9;take 1 at 19;take 1 at 29", Calls.row(0, 1, 2), 0, 0);
        dueOrder("take 3 at 0;take 1 at 9", Calls.row(0, 1), 0, 0);
        dueOrder("say 9;take 3 at 0;take 1 at 9", Calls.row(1, 2), 0, 0);
        dueOrder("take 1 at 9;take 2 at 0", Calls.row(1, 0), 0, 0);
        dueOrder("take 1 at 9;take 1 at 0;say 1;take 1 at 1", Calls.row(2, 1, 0), 0, 0);
        dueOrder("take 1 at 9;take 1 at 19;take 1 at 0;take 1 at 29", Calls.row(1, 2, 0, 3), 0, 0);
    }

    /** "if there is none, the one of the fewest SPOTS (of like ones the first) is DROPPED" */
    private static void theFewestAreDropped() {
        dueOrder("take 2 at 2;take 2 at 0", Calls.row(1), 1, 2);
        dueOrder("take 3 at 1;take 1 at 0;say 9", Calls.row(0), 1, 1);
        dueOrder("take 1 at 1;take 3 at 0", Calls.row(1), 1, 1);
        dueOrder("take 2 at 4;take 4 at 0", Calls.row(1), 1, 2);
        dueOrder("take 4 at 3;take 2 at 0", Calls.row(0), 1, 2);
        dueOrder("take 2 at 6;say 1;take 2 at 0;say 1;take 2 at 3", Calls.row(2, 1), 1, 2);
        dueOrder("take 1 at 1;take 1 at 0;take 1 at 3;take 1 at 2", Calls.row(1, 3), 2, 2);
    }

    // ---- a RUN ----

    private static TailPatches run(int[] old, String recipe) {
        TailPatches x = withOld(old);
        Calls.recipe(x, 0, recipe);
        due("begin " + recipe, x.begin(0), x.left() == -1 ? 0 : x.left());
        return x;
    }

    /** "OLD's BYTES that the DROPPED ones read are kept aside" */
    private static void droppedBytesAreKept() {
        TailPatches x = run(Calls.row(1, 2, 3, 4), "take 2 at 2 by 10;take 2 at 0");
        x.write(2);
        Calls.dueFile("the second COPY, from its last on", x, 0, 1, 2, 1, 2);
        x.write(1);
        Calls.dueFile("the BYTE 3 is gone, it was kept", x, 0, 13, 2, 1, 2);
        x.write(1);
        Calls.dueFile("the BYTE 4, too", x, 0, 13, 14, 1, 2);
    }

    /** "what is DROPPED": of the RUN's own PATCH, whatever was asked of another one ahead */
    private static void onlyItsOwnAreDropped() {
        TailPatches x = withOld(1, 2, 3, 4, 5, 6);
        Calls.recipe(x, 0, "take 1 at 1;take 3 at 0");
        Calls.recipe(x, 1, "take 2 at 4;say 9");
        due("of another one PART 0 is DROPPED", x.order(0, 0), 1);
        due("its own PART 0 is not", x.begin(1), 3);
        x.write(3);
        Calls.dueFile("all its BYTES", x, 0, 5, 6, 9);
    }

    /** "OLD has as many BYTES more, of 0, as NEW's size is above its own" */
    private static void oldGrows() {
        TailPatches x = run(Calls.row(7, 8), "take 2 at 0;say 1,2");
        Calls.dueFile("two more", x, 0, 7, 8, 0, 0);
        x = run(Calls.row(7, 8), "take 2 at 0");
        Calls.dueFile("as many", x, 0, 7, 8);
        x = run(Calls.row(7, 8, 9), "take 1 at 2");
        Calls.dueFile("fewer: none goes yet", x, 0, 7, 8, 9);
        x = run(Calls.row(), "fill 64 with 5");
        Calls.dueFile("64 more", x, 0, new int[64]);
        x = run(Calls.row(7, 8, 9), "take 1 at 2");
        x.write(1);
        Calls.old(x, 5);
        Calls.recipe(x, 0, "say 1,2,3");
        x.begin(0);
        Calls.dueFile("of 0, whatever was there", x, 0, 5, 0, 0);
    }

    /** "each from its first SPOT on, if its first PLACE is not below that, or else from its last one back" */
    private static void onOrBack() {
        TailPatches x = run(Calls.row(1, 2, 3, 4), "take 3 at 1");
        x.write(1);
        Calls.dueFile("PLACE 1 is above SPOT 0: on", x, 0, 2, 2, 3, 4);
        x.write(1);
        Calls.dueFile("the next", x, 0, 2, 3, 3, 4);
        x = run(Calls.row(1, 2, 3, 4), "take 4 at 0 by 10");
        x.write(1);
        Calls.dueFile("PLACE 0 is SPOT 0: on", x, 0, 11, 2, 3, 4);
        x = run(Calls.row(1, 2, 3, 4), "say 9;take 3 at 0");
        x.write(1);
        Calls.dueFile("PLACE 0 is below SPOT 1: back", x, 0, 1, 2, 3, 3);
        x.write(1);
        Calls.dueFile("the one ahead", x, 0, 1, 2, 2, 3);
        x.write(1);
        Calls.dueFile("the first", x, 0, 1, 1, 2, 3);
    }

    /** "what is there in OLD's PLACE by then and the DIFFERENCE (modulo 256)" */
    private static void differencesInARun() {
        TailPatches x = run(Calls.row(250, 0, 255), "take 2 at 0 by 6;take 1 at 2 by 255");
        x.write(3);
        Calls.dueFile("modulo 256", x, 0, 0, 6, 254);
        x = run(Calls.row(250, 200), "take 1 at 1 by 100;take 1 at 0 by 100");
        x.write(2);
        Calls.dueFile("of what was kept, too", x, 0, 44, 94);
    }

    /** "behind these SPOT by SPOT, rising, what is DROPPED .. and what is EXTRA" */
    private static void thenWhatIsDroppedOrExtra() {
        TailPatches x = run(Calls.row(1, 2, 3, 4, 5), "say 7;take 1 at 3;say 8;take 1 at 1;take 1 at 0;say 9");
        // SPOT 1 is from 3 and SPOT 3 from 1: the first of these is DROPPED; SPOT 4 from 0 writes nothing that is read.
        x.write(2);
        Calls.dueFile("the COPIES", x, 0, 1, 2, 3, 2, 1, 0);
        int[][] then = {{7, 2, 3, 2, 1, 0}, {7, 4, 3, 2, 1, 0}, {7, 4, 8, 2, 1, 0}, {7, 4, 8, 2, 1, 9}};
        for (int i = 0; i < 4; i++) {
            due("one more", x.write(1), 3 - i);
            Calls.dueFile("SPOT by SPOT " + i, x, 0, then[i]);
        }
    }

    /** "When all is written OLD has NEW's size alone: the RUN is over." */
    private static void theRunIsOver() {
        TailPatches x = run(Calls.row(1, 2, 3), "take 2 at 1");
        x.write(1);
        due("one is left", x.left(), 1);
        due("OLD has its own size", x.size(0), 3);
        due("none is left", x.write(1), 0);
        due("OLD has NEW's size", x.size(0), 2);
        due("no RUN goes on", x.left(), -1);
        due("a FILE may come", Calls.old(x, 4), 1);
    }

    // ---- JOINED, TURNED ----

    /** "of which the first one's NEW and the second one's OLD have like sizes and CHECKS" */
    private static void joinedOnesGoTogether() {
        TailPatches x = new TailPatches();
        Calls.sealed(x, 0, 1, 4, 1, 5, 1, 0, 1, 0, 0, 1, 0);
        Calls.sealed(x, 1, 1, 5, 0, 1, 0, 0, 0);
        due("both are alike", x.join(0, 1, 2), x.length(2));
        Calls.sealed(x, 1, 1, 6, 0, 1, 0, 0, 0);
        due("another CHECK", x.join(0, 1, 2), -4);
        Calls.sealed(x, 1, 0, 5, 0, 1, 0, 0, 0);
        due("another size", x.join(0, 1, 2), -4);
        Calls.sealed(x, 1, 2, 5, 0, 1, 0, 0, 0);
        due("another size", x.join(0, 1, 2), -4);
        Calls.sealed(x, 0, 1, 4, 1, 133, 2, 1, 0, 1, 0, 0, 1, 0);
        Calls.sealed(x, 1, 1, 5, 0, 1, 0, 0, 0);
        due("the CHECK 261 is not 5", x.join(0, 1, 2), -4);
    }

    /** "the PATCH with the first one's OLD, the second one's NEW (sizes, CHECKS)": READ alone, whatever OLD is */
    private static void joinedSizesAndChecks() {
        TailPatches x = withOld(1, 2, 3);
        Calls.sealed(x, 0, 1, 44, 1, 55, 1, 0, 1, 0, 0, 1, 0);
        Calls.sealed(x, 1, 1, 55, 2, 66, 1, 0, 1, 1, 0, 2, 0, 9);
        due("of no FILE that is there", x.join(0, 1, 0), x.length(0));
        Calls.dueBytes("1, 44, 2, 66", x, 0, 0, 1, 44, 2, 66, 1, 0, 1, 1, 0, 3, 0, 9);
    }

    /** "an EXTRA SPOT of the second as it is; one from a SPOT of the first ..: from that, both DIFFERENCES together modulo 256" */
    private static void joinedOrigins() {
        TailPatches x = withOld(10, 20);
        Calls.recipe(x, 0, "take 2 at 0 by 200;say 250");
        x.apply(0);
        x.advance();
        Calls.recipe(x, 1, "take 3 at 0 by 100;say 255;take 1 at 2;take 1 at 1");
        Calls.dueFile("the middle", x, 0, 210, 220, 250);
        x.join(0, 1, 2);
        Calls.dueListing("both DIFFERENCES are 300, 250 and 100 are 350", x, 2, "take 2 at 0 by 44;say 94,255,250;take 1 at 1 by 200");
        Calls.old(x, 10, 20);
        Calls.dueOut("as one behind the other", x, 2, 54, 64, 94, 255, 250, 220);
    }

    /** JOINED ORIGINS are PARTS anew: what goes on is one COPY, PARTS of 0 SPOTS are none. */
    private static void joinedParts() {
        TailPatches x = withOld(1, 2);
        Calls.sealed(x, 0, 2, 14, 2, 14, 4, 0, 1, 0, 0, 0, 0, 0, 1, 0, 0, 0, 0, 0, 0, 0, 0);
        due("four PARTS", x.parts(0), 4);
        due("without a FLAW", x.flawOf(0), 0);
        x.join(0, 0, 1);
        Calls.dueParts("one", x, 1, Calls.row(0, 2, 0));
    }

    /** "each of OLD's BYTES is from the lowest SPOT that is from its PLACE, or else EXTRA" */
    private static void turned() {
        TailPatches x = withOld(10, 20, 30);
        Calls.recipe(x, 0, "take 1 at 2 by 7;take 1 at 0;take 1 at 2;take 1 at 0 by 1");
        due("fine", x.turn(0, 1), x.length(1));
        Calls.dueListing("of two the lowest; 20 is from none", x, 1, "take 1 at 1;say 20;take 1 at 0 by 249");
        x.apply(0);
        x.advance();
        Calls.dueOut("OLD comes of it", x, 1, 10, 20, 30);
        x = withOld(1, 2);
        Calls.recipe(x, 0, "say 5");
        x.turn(0, 1);
        Calls.dueListing("all EXTRA", x, 1, "say 1,2");
        x = withOld();
        Calls.recipe(x, 0, "say 5");
        x.turn(0, 1);
        due("to nothing", x.listed(1), 0);
        x = withOld(1, 2);
        x.make(0);
        x.turn(0, 1);
        Calls.dueListing("from nothing", x, 1, "say 1,2");
    }

    public static void main(String[] args) {
        flaw1();
        flaw2();
        thoseAheadAlone();
        numbersEndWithinTwo();
        cutOffAnywhere();
        oldsSize();
        newsSize();
        anotherOld();
        copiesBeginAt0();
        copiesEndWithOld();
        noMoreSpotsThanNew();
        noFewerSpotsThanNew();
        waysHaveAnEnd();
        zerosHaveAnEnd();
        othersHaveEnds();
        sameOnesHaveEnds();
        noBytesAreLeft();
        whatComesOutHasNewsCheck();
        longNumbersAreTaken();
        zerosAmongOthersAreTaken();
        otherWaysAreTaken();
        emptyPartsAreTaken();
        seeksAreRead();
        whatComesOut();
        pagesHave8Places();
        allOnceMore();
        theOldestPageGoes();
        copiesOfNoneHaveNoOrder();
        copiesOf64();
        droppedBehindOthers();
        joinedOf64();
        whatACopyWrites();
        theFirstIsNext();
        theFewestAreDropped();
        droppedBytesAreKept();
        onlyItsOwnAreDropped();
        oldGrows();
        onOrBack();
        differencesInARun();
        thenWhatIsDroppedOrExtra();
        theRunIsOver();
        joinedOnesGoTogether();
        joinedSizesAndChecks();
        joinedOrigins();
        joinedParts();
        turned();
        Calls.close();
    }
}
