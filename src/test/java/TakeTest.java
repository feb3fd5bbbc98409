/** Promises 20 to 27, 40 to 45, 48, 49: PATCHES READ, JOINED, TURNED, APPLIED, run, saved. */
public final class TakeTest {
    private static void due(String call, int got, int want) {
        Calls.due(call, got, want);
    }

    private static int check(int... row) {
        int check = 1;
        for (int b : row) {
            check = (3 * check + b) % 257;
        }
        return check;
    }

    private static TailPatches withOld(int... bytes) {
        TailPatches x = new TailPatches();
        Calls.old(x, bytes);
        return x;
    }

    /** The FLAW for OLD (1, 2, whose size and CHECK are 2, 14) of these BYTES, sealed. */
    private static void flaw(int want, int... front) {
        TailPatches x = withOld(1, 2);
        Calls.sealed(x, 0, front);
        String what = "45 " + java.util.Arrays.toString(front);
        due(what, x.flawOf(0), want);
        due(what + ": parts", x.parts(0) >= 0 ? 1 : 0, want == 0 || want == 7 ? 1 : 0);
        due(what + ": apply", x.apply(0), want == 0 ? x.size(2) : -3);
        due(what + ": flaw", x.flaw(), want);
    }

    private static void promise45head() {
        flaw(3);
        flaw(3, 128);
        flaw(3, 128, 128);
        flaw(3, 128, 128, 0);
        flaw(5, 65);
        flaw(5, 193, 0);
        flaw(3, 64);
        flaw(3, 2);
        flaw(3, 2, 14);
        flaw(4, 3, 14);
        flaw(4, 2, 15);
        flaw(4, 2, 142, 1, 65);
        flaw(5, 65, 14);
        flaw(5, 2, 14, 65);
        flaw(3, 2, 14, 64);
        flaw(3, 2, 14, 0, 1);
        flaw(3, 2, 14, 0, 1, 0);
        flaw(3, 2, 14, 0, 1, 0, 0);
        flaw(0, 2, 14, 0, 1, 0, 0, 0);
        flaw(0, 130, 0, 142, 0, 128, 0, 129, 0, 128, 0, 128, 0, 128, 0);
        flaw(6, 2, 14, 0, 1, 0, 0, 0, 0);
        flaw(7, 2, 14, 0, 2, 0, 0, 0);
        flaw(6, 2, 14, 0, 2, 0, 0, 0, 9);
        flaw(0, 2, 14, 0, 1, 0, 2, 1);
        TailPatches x = withOld(1, 2);
        due("45 none", x.flawOf(0), -1);
        due("45 no slot", x.flawOf(3), -1);
        due("45 below", x.flawOf(-1), -1);
        Calls.bring(x, 0, 1);
        due("45 one BYTE", x.flawOf(0), 1);
        Calls.bring(x, 0, 0, 2);
        due("45 not the CHECK", x.flawOf(0), 2);
        Calls.bring(x, 0, 0, 1);
        due("45 the CHECK of nothing", x.flawOf(0), 3);
        Calls.bring(x, 0, 2, 14, 0, 1, 0, 0, 3, 1, 0);
        due("45 the CHECK 256 needs both BYTES", x.flawOf(0), check(2, 14, 0, 1, 0, 0, 3) == 256 ? 5 : 2);
    }

    private static void promise45parts() {
        flaw(5, 2, 14, 1, 4, 0, 0, 0);
        flaw(0, 2, 14, 1, 4, 1, 0, 1, 0, 0, 0, 0);
        flaw(7, 2, 14, 1, 5, 1, 0, 1, 0, 0, 0, 0);
        flaw(0, 2, 14, 1, 5, 1, 0, 1, 0, 0, 1, 0);
        flaw(0, 2, 14, 1, 12, 1, 0, 0, 1, 0, 0, 9);
        flaw(5, 2, 14, 1, 4, 1, 1, 1, 0, 0, 0, 0);
        flaw(5, 2, 14, 0, 1, 1, 1, 0, 0, 0, 0);
        flaw(0, 2, 14, 0, 1, 1, 4, 0, 0, 0, 0);
        flaw(5, 2, 14, 0, 1, 1, 6, 0, 0, 0, 0);
        flaw(0, 2, 14, 1, 5, 1, 2, 1, 0, 0, 0, 0);
        flaw(5, 2, 14, 1, 5, 1, 4, 1, 0, 0, 0, 0);
        flaw(5, 2, 14, 3, 4, 1, 0, 3, 0, 0, 0, 0, 0, 0);
        flaw(5, 2, 14, 1, 4, 1, 0, 1, 1);
        flaw(5, 2, 14, 1, 4, 2, 0, 1, 1);
        flaw(3, 2, 14, 1, 4, 2, 0, 1, 0);
        flaw(3, 2, 14, 1, 4, 2, 0, 1, 0, 0, 0);
        flaw(5, 2, 14, 1, 4, 2, 0, 1, 0, 0, 0, 1);
        flaw(3, 2, 14, 1, 4, 1, 128, 128, 1, 0, 0, 0, 0);
        flaw(3, 2, 14, 1, 4, 1, 0, 129, 128, 0, 0, 0, 0);
        flaw(3, 2, 14, 1, 4, 1, 0, 1, 128, 128, 0, 0, 0);
        flaw(5, 2, 14, 1, 4, 1, 0, 255, 127, 0, 0);
        flaw(3, 2, 14, 1, 4, 255, 127);
        // A SEEK from the PLACE behind a COPY of 0 SPOTS; below 0 again.
        flaw(0, 2, 14, 1, 4, 2, 4, 0, 0, 3, 1, 0, 0, 0, 0);
        flaw(5, 2, 14, 1, 4, 2, 4, 0, 0, 5, 1, 0, 0, 0, 0);
        flaw(0, 2, 14, 2, 14, 2, 0, 1, 0, 0, 1, 0, 1, 2, 0);
        flaw(0, 2, 14, 2, 13, 2, 0, 1, 0, 1, 1, 0, 1, 2, 0);
    }

    private static void promise45rows() {
        flaw(5, 2, 14, 1, 4, 1, 0, 1, 0, 3, 0, 0);
        flaw(5, 2, 14, 1, 4, 1, 0, 1, 0, 0, 0, 3);
        flaw(3, 2, 14, 1, 4, 1, 0, 1, 0, 0);
        flaw(3, 2, 14, 1, 4, 1, 0, 1, 0, 0, 0);
        flaw(0, 2, 14, 1, 4, 1, 0, 1, 0, 1, 1, 0);
        flaw(5, 2, 14, 1, 4, 1, 0, 1, 0, 1, 2, 0);
        flaw(5, 2, 14, 1, 4, 1, 0, 1, 0, 1, 0, 0, 0);
        flaw(5, 2, 14, 1, 4, 1, 0, 1, 0, 1, 0, 2, 0);
        flaw(3, 2, 14, 1, 4, 1, 0, 1, 0, 1, 0, 1);
        flaw(3, 2, 14, 1, 4, 1, 0, 1, 0, 1, 0);
        flaw(3, 2, 14, 1, 4, 1, 0, 1, 0, 1);
        flaw(0, 2, 14, 1, 4, 1, 0, 1, 0, 1, 0, 1, 0, 0);
        flaw(0, 2, 14, 1, 5, 1, 0, 1, 0, 1, 0, 1, 1, 0);
        flaw(5, 2, 14, 1, 4, 1, 0, 1, 0, 2, 0, 0, 0);
        flaw(5, 2, 14, 1, 4, 1, 0, 1, 0, 2, 2, 0, 0);
        flaw(3, 2, 14, 1, 4, 1, 0, 1, 0, 2, 1);
        flaw(3, 2, 14, 1, 4, 1, 0, 1, 0, 2);
        flaw(0, 2, 14, 1, 4, 1, 0, 1, 0, 2, 1, 0, 0);
        // Zeros told in two times, with none between them that is not 0, can't be: a 0 is told as such.
        flaw(0, 2, 14, 2, 14, 1, 0, 2, 0, 1, 1, 1, 0, 0);
        flaw(0, 2, 14, 2, 14, 1, 0, 2, 0, 2, 1, 0, 1, 0, 0);
        flaw(0, 2, 14, 3, check(5, 0, 6), 1, 0, 0, 3, 0, 1, 0, 1, 5, 1, 1, 6);
        flaw(5, 2, 14, 3, check(5, 0, 6), 1, 0, 0, 3, 0, 1, 0, 1, 5, 3);
        flaw(5, 2, 14, 3, check(0, 5, 6), 1, 0, 0, 3, 0, 1, 1, 3, 5, 6, 7);
        flaw(0, 2, 14, 3, check(0, 5, 6), 1, 0, 0, 3, 0, 1, 1, 2, 5, 6);
        flaw(0, 2, 14, 3, check(5, 5, 6), 1, 0, 0, 3, 0, 2, 2, 5, 1, 6);
        flaw(5, 2, 14, 3, check(5, 5, 6), 1, 0, 0, 3, 0, 2, 2, 5, 2, 6);
    }

    private static void promises40to42() {
        TailPatches x = withOld(1, 2);
        // READ alone: of another OLD, with a CHECK of NEW that can't be.
        Calls.sealed(x, 0, 9, 99, 3, 255, 127, 2, 6, 2, 0, 0, 0, 1, 2, 2, 0, 1, 1);
        due("45", x.flawOf(0), 4);
        Calls.dueParts("40, 41", x, 0, Calls.row(3, 2, 0), Calls.row(-1, 0, 1));
        due("42 DIFFERENCES", x.way(0, 0), 2);
        due("42 EXTRA", x.way(0, 1), 1);
        due("42 what", x.way(0, 2), -1);
        due("42 below", x.way(0, -1), -1);
        due("41 no PART", x.part(0, 2, 0), -1);
        due("41 below", x.part(0, -1, 1), -1);
        due("41 what", x.part(0, 0, 3), -1);
        due("41 what below", x.part(0, 0, -1), -1);
        for (int slot : new int[] {-1, 1, 3}) {
            due("40 none", x.parts(slot), -1);
            due("41 none", x.part(slot, 0, 0), -1);
            due("42 none", x.way(slot, 0), -1);
        }
        x.spoil(0, 0, 8);
        due("40 a FLAW", x.parts(0), -1);
        due("41 a FLAW", x.part(0, 0, 1), -1);
        due("42 a FLAW", x.way(0, 0), -1);
        // As many PARTS as there is room for: of 0 SPOTS, all.
        int[] many = new int[298];
        int[] head = {0, 1, 0, 1, 97};
        System.arraycopy(head, 0, many, 0, 5);
        x = withOld();
        Calls.sealed(x, 0, java.util.Arrays.copyOf(many, 5 + 3 * 97 + 2));
        due("40 the most PARTS", x.parts(0), 97);
        due("41 the last", x.part(0, 96, 1), 0);
        due("45 the most PARTS", x.flawOf(0), 0);
        many[4] = 98;
        Calls.sealed(x, 0, many);
        due("40 one too many", x.parts(0), -1);
        due("45 one too many", x.flawOf(0), 3);
    }

    private static void dueOrder(String what, TailPatches x, int[] order, int dropped, int spots) {
        for (int i = 0; i < order.length; i++) {
            due("43 " + what + " " + i, x.order(0, i), order[i]);
        }
        due("43 " + what + " behind the last", x.order(0, order.length), -1);
        due("44 " + what, x.dropped(0, 0), dropped);
        due("44 " + what + ": SPOTS", x.dropped(0, 1), spots);
    }

    private static void promises43and44() {
        TailPatches x = withOld(Calls.rising(10, 8));
        Calls.recipe(x, 0, "take 2 at 6;say 1;take 2 at 0;say 1;take 2 at 3");
        dueOrder("a ring", x, Calls.row(2, 1), 1, 2);
        Calls.recipe(x, 0, "say 1;take 2 at 0;take 3 at 3");
        // PART 1 (SPOTS 1, 2 from 0, 1) writes nothing that PART 2 (SPOTS 3 .. 5 from 3 ..) reads.
        dueOrder("no ring", x, Calls.row(1, 2), 0, 0);
        Calls.recipe(x, 0, "take 3 at 1;take 3 at 0");
        dueOrder("the fewest, of like ones the first", x, Calls.row(1), 1, 3);
        Calls.recipe(x, 0, "take 4 at 2;take 1 at 0;say 5");
        dueOrder("the fewest", x, Calls.row(0), 1, 1);
        Calls.recipe(x, 0, "say 7;take 5 at 0");
        dueOrder("over itself", x, Calls.row(1), 0, 0);
        Calls.recipe(x, 0, "take 1 at 2;take 1 at 4;take 1 at 3;take 1 at 5");
        dueOrder("as they stand", x, Calls.row(0, 1, 2, 3), 0, 0);
        Calls.recipe(x, 0, "say 9;take 1 at 0;say 9;take 1 at 1");
        // PART 1 writes 1, which PART 2 reads: that one is next.
        dueOrder("the later one first", x, Calls.row(2, 1), 0, 0);
        Calls.old(x);
        dueOrder("READ alone", x, Calls.row(2, 1), 0, 0);
        x = withOld(1, 2, 3, 4);
        Calls.recipe(x, 0, "take 2 at 2;take 2 at 0");
        due("44 asked first", x.dropped(0, 1), 2);
        due("43 below", x.order(0, -1), -1);
        due("44 what", x.dropped(0, 2), -1);
        due("44 below", x.dropped(0, -1), -1);
        for (int slot : new int[] {-1, 1, 3}) {
            due("43 none", x.order(slot, 0), -1);
            due("44 none", x.dropped(slot, 0), -1);
        }
        x.spoil(0, 0, 60);
        due("43 a FLAW", x.order(0, 0), -1);
        due("44 a FLAW", x.dropped(0, 0), -1);
    }

    private static void promise20() {
        TailPatches x = withOld(10, 20, 30, 40);
        Calls.recipe(x, 0, "take 3 at 1 by 250;say 7,8");
        x.apply(0);
        Calls.dueFile("20 the middle", x, 2, 14, 24, 34, 7, 8);
        x.advance();
        Calls.recipe(x, 1, "take 3 at 2 by 10;say 1;take 1 at 0 by 6;take 2 at 1");
        x.apply(1);
        Calls.dueFile("20 the end", x, 2, 44, 17, 18, 1, 20, 24, 34);
        due("20 fine", x.join(0, 1, 2), x.length(2));
        due("20 status", x.status(), 0);
        due("20 flaw", x.flaw(), 0);
        Calls.dueListing("20", x, 2, "take 1 at 3 by 4;say 17,18,1;take 1 at 1;take 2 at 2 by 250");
        Calls.old(x, 10, 20, 30, 40);
        due("20 apply", x.apply(2), 7);
        Calls.dueFile("20 without the middle", x, 2, 44, 17, 18, 1, 20, 24, 34);
        Calls.refused("20 they don't go together", x, x.join(1, 0, 2), -4, 0);
        due("20 no flaw", x.flaw(), 0);
        Calls.refused("20 no slot", x, x.join(3, 1, 2), -1, 0);
        Calls.refused("20 no slot", x, x.join(0, -1, 2), -1, 1);
        Calls.refused("20 no slot", x, x.join(0, 1, 3), -1, 2);
        x.drop(2);
        Calls.refused("20 none", x, x.join(2, 1, 0), -2, 0);
        Calls.refused("20 none", x, x.join(0, 2, 1), -2, 1);
        due("20 one of them", x.join(0, 1, 0), x.length(0));
        due("20 undone", x.undo(), 9);
        x.spoil(1, 0, 60);
        Calls.refused("20 the other's FLAW", x, x.join(0, 1, 2), -3, 0);
        due("20 the other's FLAW", x.flaw(), 2);
        Calls.bring(x, 0, 5);
        Calls.refused("20 one's FLAW first", x, x.join(0, 1, 2), -3, 1);
        due("20 one's FLAW first", x.flaw(), 1);
        due("20 none comes of it", x.length(2), -1);
        promise20checks();
    }

    private static void promise20checks() {
        TailPatches x = new TailPatches();
        // CHECKS that no FILE has: the NUMBERS go on as they are.
        Calls.sealed(x, 0, 1, 255, 127, 1, 254, 127, 1, 0, 1, 0, 0, 3, 0);
        Calls.sealed(x, 1, 1, 254, 127, 2, 253, 127, 1, 0, 1, 1, 0, 255, 0, 9);
        due("20 fine", x.join(0, 1, 2), x.length(2));
        int[] front = {1, 255, 127, 2, 253, 127, 1, 0, 1, 1, 0, 2, 0, 9};
        int[] whole = java.util.Arrays.copyOf(front, 16);
        whole[14] = check(front) / 256;
        whole[15] = check(front) % 256;
        Calls.duePatch("20 the CHECKS", x, 2, whole);
        Calls.sealed(x, 1, 1, 253, 127, 2, 253, 127, 1, 0, 1, 1, 0, 255, 0, 9);
        Calls.refused("20 another CHECK", x, x.join(0, 1, 2), -4, 0);
        Calls.sealed(x, 1, 2, 254, 127, 1, 253, 127, 1, 0, 1, 0, 0, 255, 0);
        Calls.refused("20 another size", x, x.join(0, 1, 2), -4, 1);
    }

    private static void promise21() {
        TailPatches x = withOld(10, 20, 30, 40);
        Calls.recipe(x, 0, "say 5;take 2 at 2 by 3;take 2 at 2;take 1 at 0 by 255");
        due("21 fine", x.turn(0, 1), x.length(1));
        due("21 flaw", x.flaw(), 0);
        // 2, 3 are from the lowest SPOTS, 1 and 2, with 253; 0 from SPOT 5 with 1; 1 from none.
        Calls.dueListing("21", x, 1, "take 1 at 5 by 1;say 20;take 2 at 1 by 253");
        due("21 is not for OLD", x.flawOf(1), 4);
        x.apply(0);
        x.advance();
        due("21 back", x.apply(1), 4);
        Calls.dueFile("21 back", x, 2, 10, 20, 30, 40);
        Calls.refused("21 of another OLD", x, x.turn(0, 2), -3, 0);
        due("21 flaw", x.flaw(), 4);
        Calls.refused("21 none", x, x.turn(2, 1), -2, 0);
        Calls.refused("21 no slot", x, x.turn(3, 1), -1, 0);
        Calls.refused("21 no slot", x, x.turn(0, 3), -1, 1);
        due("21 flaw stays for these", x.flaw(), 4);
        due("21 in its own SLOT", x.turn(1, 1), x.length(1));
        Calls.dueListing("21 twice", x, 1, "say 5;take 2 at 2 by 3;say 30,40;take 1 at 0 by 255");
        due("21 undone", x.undo(), 10);
    }

    private static void promises22to24() {
        TailPatches x = withOld(Calls.rising(0, 64));
        Calls.recipe(x, 0, "take 1 at 0;take 1 at 8;take 1 at 7;take 1 at 16;take 1 at 0");
        due("22", x.apply(0), 5);
        Calls.dueFile("22", x, 2, 0, 8, 7, 16, 0);
        // 0 1 . 2 (for 1) . / . 1 (for 2) . 2 (for 1) .
        due("24 LOADED", x.loaded(0), 5);
        due("24 held", x.loaded(1), 2);
        x.terms(4, 1);
        due("24 stays", x.loaded(0), 5);
        x.apply(0);
        // 0 1 0 2 0 / . 1 0 2 0
        due("24 one frame", x.loaded(0), 9);
        due("24 one held", x.loaded(1), 1);
        x.terms(4, 6);
        x.apply(0);
        due("24 many frames", x.loaded(0), 3);
        due("24 three held", x.loaded(1), 3);
        due("24 what", x.loaded(2), -1);
        due("24 below", x.loaded(-1), -1);
        Calls.refused("22 none", x, x.apply(1), -2, 0);
        Calls.refused("22 no slot", x, x.apply(3), -1, 0);
        due("24 stays when REFUSED", x.loaded(0), 3);
        x.spoil(0, 1, 0);
        Calls.refused("22 a FLAW", x, x.apply(0), -3, 0);
        due("23", x.flaw(), 2);
        x.apply(1);
        due("23 stays for -2", x.flaw(), 2);
        due("22 OUT stays", x.size(2), 5);
        x.undo();
        due("22 undone", x.undo(), 11);
        due("24 is not undone", x.loaded(0), 3);
        due("23 is not undone", x.flaw(), 2);
        Calls.recipe(x, 0, "say 1,2");
        x.apply(0);
        due("24 nothing read", x.loaded(0), 0);
        due("24 nothing held", x.loaded(1), 0);
        due("23 without one", x.flaw(), 0);
        Calls.recipe(x, 0, "take 64 at 0");
        x.apply(0);
        due("24 all PAGES, twice", x.loaded(0), 16);
        due("24 as many as FRAMES", x.loaded(1), 6);
    }

    private static void promises25to27() {
        TailPatches x = withOld(1, 2, 3, 4);
        due("27 none goes on", x.left(), -1);
        Calls.refused("26 none goes on", x, x.write(1), -4, 0);
        Calls.recipe(x, 0, "take 2 at 2 by 10;take 2 at 0");
        due("25", x.begin(0), 4);
        due("27", x.left(), 4);
        Calls.refused("26 none", x, x.write(0), -1, 0);
        Calls.refused("26 below", x, x.write(-1), -1, 1);
        Calls.refused("25 one goes on", x, x.begin(0), -4, 1);
        due("23 of that", x.flaw(), 0);
        due("26 from the last one back", x.write(1), 3);
        Calls.dueFile("26", x, 0, 1, 2, 3, 2);
        Calls.refused("25 a FLAW ahead of that", x, x.begin(0), -3, 0);
        due("23 of that", x.flaw(), 4);
        Calls.refused("31 a RUN goes on", x, x.swap(), -4, 2);
        Calls.refused("32 a RUN goes on", x, x.advance(), -4, 3);
        x.drop(0);
        due("26 whatever becomes of the PATCH", x.write(2), 1);
        Calls.dueFile("26 what was kept", x, 0, 13, 2, 1, 2);
        due("26 more than are left", x.write(99), 0);
        Calls.dueFile("26 all", x, 0, 13, 14, 1, 2);
        due("27 over", x.left(), -1);
        due("26 undone", x.undo(), 13);
        due("27 undone", x.left(), 1);
        Calls.refused("25 none", x, x.begin(0), -2, 0);
        Calls.refused("25 no slot", x, x.begin(-1), -1, 2);
        Calls.refused("25 no slot", x, x.begin(3), -1, 3);
        due("26 the greatest", x.write(Integer.MAX_VALUE), 0);
        Calls.dueFile("26 all, again", x, 0, 13, 14, 1, 2);
    }

    private static void promises25grows() {
        TailPatches x = withOld(1, 2, 3);
        Calls.recipe(x, 0, "say 9;take 3 at 0;say 8");
        due("25 OLD grows", x.begin(0), 5);
        Calls.dueFile("25 by zeros", x, 0, 1, 2, 3, 0, 0);
        x.write(1);
        Calls.dueFile("26", x, 0, 1, 2, 3, 3, 0);
        x.write(3);
        Calls.dueFile("26 EXTRA behind the COPIES", x, 0, 9, 1, 2, 3, 0);
        x.write(1);
        Calls.dueFile("26 the last", x, 0, 9, 1, 2, 3, 8);
        Calls.recipe(x, 1, "take 2 at 1 by 1");
        due("25 OLD shrinks", x.begin(1), 2);
        due("25 not yet", x.size(0), 5);
        x.write(1);
        Calls.dueFile("26 from the first one on", x, 0, 2, 1, 2, 3, 8);
        due("26 over", x.write(1), 0);
        Calls.dueFile("26 OLD has NEW's size alone", x, 0, 2, 3);
        due("26 undone", x.undo(), 13);
        due("26 undone", x.size(0), 5);
        x.undo();
        due("25 undone", x.undo(), 12);
        Calls.dueFile("25 undone", x, 0, 9, 1, 2, 3, 8);
        due("25 undone", x.left(), -1);
        x = withOld(1, 2, 3);
        Calls.sealed(x, 0, 3, check(1, 2, 3), 0, 1, 0, 0, 0);
        due("25 over at once", x.begin(0), 0);
        due("25 over at once", x.left(), -1);
        due("25 nothing left", x.size(0), 0);
        due("25 undone", x.undo(), 12);
        due("25 undone", x.size(0), 3);
        x = withOld(1, 2, 3, 4, 5, 6);
        Calls.recipe(x, 0, "say 7;take 1 at 0;say 8;take 2 at 3;again 1 back 5");
        // Part 1: SPOT 1 from 0; part 2: SPOTS 3, 4 from 3, 4 (its first PLACE is not below that), then 5 again EXTRA.
        x.begin(0);
        x.write(3);
        Calls.dueFile("26 by ORDER", x, 0, 1, 1, 3, 4, 5, 6);
        x.write(3);
        Calls.dueFile("26 by ORDER, then EXTRA", x, 0, 7, 1, 8, 4, 5, 7);
    }

    private static void promise48() {
        TailPatches x = withOld(Calls.rising(0, 20));
        Calls.recipe(x, 0, "take 3 at 10;take 4 at 0;take 2 at 4 by 1;say 5;take 5 at 13;take 2 at 2");
        // take 4 at 0 and take 2 at 4 are one COPY of 6, then 13 .. 17: 11.
        due("48", x.stay(0), 11);
        Calls.recipe(x, 0, "take 9 at 10;take 4 at 0;take 4 at 5");
        due("48 one alone", x.stay(0), 9);
        Calls.recipe(x, 0, "take 4 at 0;take 4 at 3;take 4 at 7");
        due("48 one that begins within the last is none", x.stay(0), 8);
        Calls.recipe(x, 0, "say 1");
        due("48 none", x.stay(0), 0);
        Calls.old(x);
        due("48 READ alone", x.stay(0), 0);
        due("48 no PATCH", x.stay(1), -1);
        due("48 no slot", x.stay(3), -1);
        x.spoil(0, 0, 4);
        due("48 a FLAW", x.stay(0), -1);
    }

    private static void dueSaves(String what, TailPatches x, int ways, int index, int value) {
        due("49 " + what + ": ways", x.save(0, 0), ways);
        due("49 " + what + ": INDEX", x.save(0, 1), index);
        due("49 " + what + ": BYTE", x.save(0, 2), value);
    }

    private static void promise49() {
        TailPatches x = new TailPatches();
        x.make(0);
        dueSaves("nothing to save", x, 0, -1, -1);
        x.spoil(0, 8, 145);
        // The CHECK's second BYTE again, or the WAY of no EXTRA BYTES, 1 instead of 0.
        dueSaves("two ways", x, 2, 6, 1);
        x.undo();
        x.spoil(0, 7, 1);
        dueSaves("the CHECK's first BYTE", x, 1, 7, 0);
        x.spoil(0, 8, 0);
        dueSaves("both", x, 0, -1, -1);
        due("49 what", x.save(0, 3), -1);
        due("49 below", x.save(0, -1), -1);
        due("49 none", x.save(1, 0), -1);
        due("49 no slot", x.save(3, 0), -1);
        Calls.bring(x, 0, 7);
        dueSaves("one BYTE", x, 0, -1, -1);
        Calls.bring(x, 0, 0, 9);
        dueSaves("two BYTES", x, 0, -1, -1);
        x = withOld(1, 2);
        Calls.sealed(x, 0, 2, 14, 1, 4, 1, 0, 1, 0, 0, 0, 0);
        x.spoil(0, 2, 2);
        due("45", x.flawOf(0), 2);
        due("49 NEW's size", x.save(0, 1), 2);
        due("49 NEW's size", x.save(0, 2), 1);
        Calls.old(x, 1, 3);
        dueSaves("for OLD", x, 0, -1, -1);
    }

    /** A PATCH whose CHECK is 256, told by both its BYTES: what it is saved by, as all BYTES tried tell. */
    private static void promise49twoBytes() {
        int one = 0;
        int[] front = new int[0];
        for (int i = 0; i < 125 * 125 && check(front) != 256; i++) {
            one = i / 125;
            int extra = i % 125;
            front = Calls.row(1, 3 + one, 1, 3 + extra, 1, 0, 0, 1, 0, 0, extra);
        }
        due("49 a PATCH with the CHECK 256", check(front), 256);
        int last = front.length - 1;
        int[][] spoils = {{last, 250}, {2, 2}, {last + 1, 0}, {last + 2, 5}, {last + 1, 2}, {4, 9}};
        for (int[] spoil : spoils) {
            TailPatches x = withOld(one);
            Model model = new Model();
            model.files[0] = Calls.row(one);
            Calls.sealed(x, 0, front);
            due("49 no FLAW", x.flawOf(0), 0);
            due("49 spoiled", x.spoil(0, spoil[0], spoil[1]) == x.patch(0, spoil[0]) ? 1 : 0, 0);
            int[] bytes = new int[x.length(0)];
            for (int i = 0; i < bytes.length; i++) {
                bytes[i] = x.patch(0, i);
            }
            model.slots[0] = bytes;
            String what = "BYTE " + spoil[0] + " spoiled";
            due("49 " + what + ": it can be saved", model.save(0, 0) > 0 ? 1 : 0, 1);
            dueSaves(what, x, model.save(0, 0), model.save(0, 1), model.save(0, 2));
        }
    }

    public static void main(String[] args) {
        promise45head();
        promise45parts();
        promise45rows();
        promises40to42();
        promises43and44();
        promise20();
        promise21();
        promises22to24();
        promises25to27();
        promises25grows();
        promise48();
        promise49();
        promise49twoBytes();
        Calls.close();
    }
}
