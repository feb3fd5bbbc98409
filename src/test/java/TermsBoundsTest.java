import java.util.function.Supplier;
import java.util.function.ToIntFunction;

/** Terms, I: each sentence that tells where something ends has a test of its own, in the document's order. */
public final class TermsBoundsTest {
    private static void due(String call, int got, int want) {
        Calls.due(call, got, want);
    }

    /** "FILES 0 OLD, 1 NEW, 2 OUT" */
    private static void filesAreThree() {
        TailPatches x = Calls.with(Calls.row(1), Calls.row(2, 3));
        due("OLD is 0", x.size(0), 1);
        due("NEW is 1", x.size(1), 2);
        due("OUT is 2", x.size(2), 0);
        due("there is no FILE -1", x.size(-1), -1);
        due("there is no FILE 3", x.size(3), -1);
    }

    /** "each a row of BYTES 0 .. 255" */
    private static void bytesHaveEnds() {
        TailPatches x = Calls.with(Calls.row(0, 255), Calls.row(7));
        Calls.dueFile("BYTES 0 and 255", x, 0, 0, 255);
        due("put 0", x.put(0, 0), 2);
        due("put 255", x.put(0, 255), 3);
        due("set 0", x.set(0, 0), 255);
        due("set 255", x.set(0, 255), 0);
        Calls.bring(x, 0, 1, 2);
        due("spoil 0", x.spoil(0, 0, 0), 1);
        due("spoil 255", x.spoil(0, 0, 255), 0);
        Calls.stays("put -1", x, () -> x.put(0, -1), -1);
        Calls.stays("put 256", x, () -> x.put(0, 256), -1);
        Calls.stays("set -1", x, () -> x.set(0, -1), -1);
        Calls.stays("set 256", x, () -> x.set(0, 256), -1);
        Calls.stays("spoil -1", x, () -> x.spoil(0, 0, -1), -1);
        Calls.stays("spoil 256", x, () -> x.spoil(0, 0, 256), -1);
    }

    /** "64 at most": by file(), put(), a RECIPE, a RUN */
    private static void filesHave64AtMost() {
        TailPatches x = new TailPatches();
        for (int file = 0; file < 2; file++) {
            Calls.tape(x, Calls.rising(0, 64));
            due("a FILE of 64", x.file(file), 64);
            due("its last BYTE", x.byteOf(file, 63), 63);
            Calls.tape(x, Calls.rising(0, 65));
            due("a FILE of 65", x.file(file), -5);
            due("it has 64", x.size(file), 64);
        }
        due("put one more", x.put(64, 1), -5);
        due("a RECIPE of 64", Calls.recipe(x, 0, "fill 64 with 1") > 0 ? 1 : 0, 1);
        due("a RECIPE of 65", Calls.recipe(x, 0, "fill 64 with 1;say 1"), -5);
        due("OUT of 64", x.apply(0), 64);
        due("OUT's last", x.byteOf(2, 63), 1);
        Calls.old(x);
        Calls.recipe(x, 0, "fill 64 with 1");
        due("a RUN of 64", x.begin(0), 64);
        due("OLD has 64 more", x.size(0), 64);
        due("all are written", x.write(64), 0);
        due("OLD's last", x.byteOf(0, 63), 1);
    }

    /** "(empty at first)" */
    private static void filesAreEmptyAtFirst() {
        TailPatches x = new TailPatches();
        for (int file = 0; file < 3; file++) {
            due("FILE " + file + " is empty", x.size(file), 0);
            due("FILE " + file + " has no BYTE", x.byteOf(file, 0), -1);
        }
    }

    /** "PLACES are those of OLD, SPOTS those of NEW, both 0 on" */
    private static void placesAndSpotsBeginAt0() {
        TailPatches x = Calls.with(Calls.row(9, 8, 7), Calls.row(6, 9));
        due("the last of SORTED is PLACE 0", x.sorted(2, 0), 0);
        due("the first of SORTED is the last PLACE", x.sorted(0, 0), 2);
        due("SPOT 0 has no MATCH", x.match(0, 0), 0);
        due("SPOT 1 has PLACE 0's", x.match(1, 1), 0);
        due("no SPOT 2", x.match(2, 0), -1);
        due("no SPOT -1", x.match(-1, 0), -1);
    }

    /** "Each of the PLACES 0 .. 63 is BARRED or not (at first), whatever OLD has." */
    private static void placesAreBarredWhateverOldHas() {
        TailPatches x = new TailPatches();
        due("none at first", x.count(3), 0);
        due("PLACE 0 of an empty OLD", x.bar(0, 1), 1);
        due("PLACE 63 of an empty OLD", x.bar(63, 1), 2);
        due("no PLACE 64", x.bar(64, 1), -1);
        due("no PLACE -1", x.bar(-1, 1), -1);
        Calls.old(x, Calls.rising(0, 64));
        due("PLACE 1 is the first TAIL of OLD then", x.sorted(0, 0), 1);
        due("PLACE 62 the last", x.sorted(61, 0), 62);
        due("no other", x.sorted(62, 0), -1);
        x.swap();
        due("exchanged, they are BARRED", x.count(3), 2);
        x.advance();
        due("OLD is another one, they are BARRED", x.count(3), 2);
        Calls.old(x, 1, 2);
        due("PLACE 0 of the next OLD is", x.sorted(0, 0), 1);
    }

    /** "SLOTS 0 .. 2" */
    private static void slotsAreThree() {
        TailPatches x = new TailPatches();
        for (int slot = 0; slot < 3; slot++) {
            due("SLOT " + slot, x.make(slot), 9);
            due("SLOT " + slot + " has it", x.length(slot), 9);
        }
        for (int slot : new int[] {-1, 3, Integer.MIN_VALUE, Integer.MAX_VALUE}) {
            due("length(" + slot + ")", x.length(slot), -1);
            due("patch(" + slot + ", 0)", x.patch(slot, 0), -1);
            due("bring(" + slot + ")", Calls.bring(x, slot, 1), -1);
            due("recipe(" + slot + ")", x.recipe(slot), -1);
            due("make(" + slot + ")", x.make(slot), -1);
            due("join(" + slot + ", 1, 2)", x.join(slot, 1, 2), -1);
            due("join(0, " + slot + ", 2)", x.join(0, slot, 2), -1);
            due("join(0, 1, " + slot + ")", x.join(0, 1, slot), -1);
            due("turn(" + slot + ", 1)", x.turn(slot, 1), -1);
            due("turn(0, " + slot + ")", x.turn(0, slot), -1);
            due("apply(" + slot + ")", x.apply(slot), -1);
            due("begin(" + slot + ")", x.begin(slot), -1);
            due("spoil(" + slot + ", 0, 9)", x.spoil(slot, 0, 9), -1);
            due("seal(" + slot + ")", x.seal(slot), -1);
            due("drop(" + slot + ")", x.drop(slot), -1);
        }
        due("each was REFUSED", x.count(7), 4 * 13);
        due("none was an act", x.count(5), 3);
    }

    /** "each has a PATCH, a row of 300 BYTES at most (INDEX 0 on)" */
    private static void patchesHave300AtMost() {
        TailPatches x = new TailPatches();
        int[] most = new int[300];
        most[0] = 1;
        most[299] = 2;
        due("300 BYTES", Calls.bring(x, 1, most), 300);
        due("INDEX 0", x.patch(1, 0), 1);
        due("INDEX 299", x.patch(1, 299), 2);
        due("no INDEX 300", x.patch(1, 300), -1);
        due("no INDEX -1", x.patch(1, -1), -1);
        due("301 BYTES", Calls.bring(x, 1, new int[301]), -5);
        due("it has 300", x.length(1), 300);
        due("one BYTE", Calls.bring(x, 1, 9), 1);
        due("its INDEX 0", x.patch(1, 0), 9);
        due("it has no INDEX 1", x.patch(1, 1), -1);
    }

    /** "or none (at first)" */
    private static void slotsHaveNoneAtFirst() {
        TailPatches x = new TailPatches();
        for (int slot = 0; slot < 3; slot++) {
            due("no PATCH in SLOT " + slot, x.length(slot), -1);
            due("no BYTE in SLOT " + slot, x.patch(slot, 0), -1);
            due("no PATCH to drop in SLOT " + slot, x.drop(slot), -2);
        }
    }

    /** "TERMS: 0 LEAST 2 .. 9 (3 at first), 1 SLACK 0 .. 9 (1), 2 GAIN 1 .. 9 (1), 3 LOSS 0 .. 9 (1), 4 FRAMES 1 .. 6 (2)" */
    private static void termsHaveEnds() {
        int[] least = {2, 0, 1, 0, 1};
        int[] most = {9, 9, 9, 9, 6};
        int[] first = {3, 1, 1, 1, 2};
        for (int i = 0; i < 5; i++) {
            TailPatches x = new TailPatches();
            int term = i;
            due("TERM " + i + " at first", x.count(13 + i), first[i]);
            Calls.stays("TERM " + i + " below", x, () -> x.terms(term, least[term] - 1), -1);
            Calls.stays("TERM " + i + " above", x, () -> x.terms(term, most[term] + 1), -1);
            due("TERM " + i + " the least", x.terms(i, least[i]), first[i]);
            due("TERM " + i + " is that", x.count(13 + i), least[i]);
            due("TERM " + i + " the most", x.terms(i, most[i]), least[i]);
            due("TERM " + i + " is that", x.count(13 + i), most[i]);
            for (int k = 0; k < 5; k++) {
                due("TERM " + k + " beside " + i, x.count(13 + k), k == i ? most[i] : first[k]);
            }
        }
        TailPatches x = new TailPatches();
        Calls.stays("no TERM -1", x, () -> x.terms(-1, 3), -1);
        Calls.stays("no TERM 5", x, () -> x.terms(5, 3), -1);
    }

    /** "CHECK of a row of BYTES: 1, then for each BYTE in turn three times what there is and the BYTE, modulo 257." */
    private static void checksGoRound() {
        // of none 1; 3 and 253 are 256, and 254 257, and 255 258; then 0 and 3, 1 and 0, 3 and 255 once more.
        int[][] rows = {{}, {0}, {253}, {254}, {255}, {254, 3}, {255, 0}, {255, 255}, {253, 0}, {253, 4}, {1, 2, 3},
            {252}};
        int[][] checks = {{0, 1}, {0, 3}, {1, 0}, {0, 0}, {0, 1}, {0, 3}, {0, 3}, {0, 1}, {0, 254}, {0, 1}, {0, 45}, {0, 255}};
        for (int i = 0; i < rows.length; i++) {
            TailPatches x = new TailPatches();
            Calls.sealed(x, 0, rows[i]);
            int n = rows[i].length;
            due("row " + i + ": by 256", x.patch(0, n), checks[i][0]);
            due("row " + i + ": the rest", x.patch(0, n + 1), checks[i][1]);
        }
    }

    /** "The TAPE has at most 400 bytes." */
    private static void theTapeHas400AtMost() {
        TailPatches x = new TailPatches();
        for (int i = 1; i <= 20; i++) {
            due("feed " + i, x.feed(i, 0, 0, 0, 0), 20 * i);
        }
        due("20 more", x.feed(0, 0, 0, 0, 0), -1);
        due("400", x.count(6), 400);
        due("end at 381", x.end(381), 381);
        due("20 more are 401", x.feed(0, 0, 0, 0, 0), -1);
        due("end at 380", x.end(380), 380);
        due("20 more are 400", x.feed(0, 0, 0, 0, 0), 400);
    }

    /** A RUN goes on; SLOT 1 has one BYTE alone, SLOT 2 none; the TAPE has 65 bytes. */
    private static TailPatches running() {
        TailPatches x = Calls.with(Calls.row(1, 2, 3), Calls.row(4));
        Calls.recipe(x, 0, "take 2 at 1;say 9");
        x.begin(0);
        Calls.bring(x, 1, 7);
        Calls.tape(x, new int[65]);
        return x;
    }

    private static TailPatches full() {
        return Calls.with(Calls.row(), Calls.rising(0, 64));
    }

    private static TailPatches longTape() {
        TailPatches x = new TailPatches();
        Calls.tape(x, new int[301]);
        return x;
    }

    /** "REFUSED by: -1 .. The first of these in that order": -1 ahead of all others */
    private static void aNumberIsFirst() {
        Supplier<TailPatches> run = () -> running();
        Calls.stays("no FILE 2, a RUN, no room", run, x -> x.file(2), -1);
        Calls.stays("no FILE -1, a RUN, no room", run, x -> x.file(-1), -1);
        Calls.stays("begin: no SLOT, a RUN goes on", run, x -> x.begin(3), -1);
        Calls.stays("write(0)", run, x -> x.write(0), -1);
        Supplier<TailPatches> empty = () -> new TailPatches();
        Calls.stays("bring: no SLOT, an empty TAPE", empty, x -> x.bring(3), -1);
        Calls.stays("recipe: no SLOT, an empty TAPE", empty, x -> x.recipe(-1), -1);
        Calls.stays("write(0), no RUN", empty, x -> x.write(0), -1);
        Calls.stays("join: no SLOT to, no PATCHES", empty, x -> x.join(0, 1, 3), -1);
        Calls.stays("join: no SLOT other, no PATCH one", empty, x -> x.join(0, 3, 0), -1);
        Calls.stays("join: no SLOT one, no PATCH other", empty, x -> x.join(3, 0, 0), -1);
        Calls.stays("turn: no SLOT to, no PATCH", empty, x -> x.turn(0, 3), -1);
        Calls.stays("spoil: no INDEX, no PATCH", empty, x -> x.spoil(0, 300, 0), -1);
        Calls.stays("spoil: no BYTE, no PATCH", empty, x -> x.spoil(0, 0, 256), -1);
        Calls.stays("bar: no PLACE, none is BARRED there", empty, x -> x.bar(64, 0), -1);
        Calls.stays("bring: no SLOT, no room", () -> longTape(), x -> x.bring(-1), -1);
        Supplier<TailPatches> full = () -> full();
        Calls.stays("put: no SPOT, no room", full, x -> x.put(65, 0), -1);
        Calls.stays("put: no BYTE, no room", full, x -> x.put(0, 256), -1);
        Calls.stays("move: not all are there, the same SPOT", full, x -> x.move(63, 2, 63), -1);
        Calls.stays("move: none, the same SPOT", full, x -> x.move(5, 0, 5), -1);
    }

    /** "The first of these in that order": -2 ahead of -3, -4; -3 ahead of -4; -4 ahead of -5; -6 is alone */
    private static void theOthersInTheirOrder() {
        Supplier<TailPatches> run = () -> running();
        Calls.stays("join: one has a FLAW, the other is none", run, x -> x.join(1, 2, 0), -2);
        Calls.stays("join: one is none, the other has a FLAW", run, x -> x.join(2, 1, 0), -2);
        Calls.stays("begin: none, a RUN goes on", run, x -> x.begin(2), -2);
        Calls.stays("spoil: none, it has no such INDEX", run, x -> x.spoil(2, 99, 0), -2);
        Calls.stays("seal: none", run, x -> x.seal(2), -2);
        Calls.stays("begin: a FLAW, a RUN goes on", run, x -> x.begin(1), -3);
        Calls.stays("join: a FLAW, they don't go together", run, x -> x.join(0, 1, 2), -3);
        Calls.stays("join: a FLAW, they don't go together", run, x -> x.join(1, 0, 2), -3);
        Calls.stays("begin: without a FLAW, a RUN goes on", run, x -> x.begin(0), -4);
        Calls.stays("file: a RUN goes on, no room", run, x -> x.file(0), -4);
        Calls.stays("file: a RUN goes on, no room", run, x -> x.file(1), -4);
        Calls.stays("a RECIPE that can't be read and could not be", run, x -> Calls.recipe(x, 0, "take 9 at 9;take"), -6);
        Calls.stays("a RECIPE that can't be read, no room", run, x -> Calls.recipe(x, 0, "fill 64 with 1;say 1;"), -6);
    }

    private static void left(String what, Supplier<TailPatches> made, ToIntFunction<TailPatches> call, int by) {
        TailPatches x = made.get();
        int tape = x.count(6);
        int flaw = x.flaw();
        int fault = x.fault();
        int stopped = x.stopped();
        Calls.stays(what, x, () -> call.applyAsInt(x), by);
        due(what + ": the TAPE", x.count(6), tape);
        due(what + ": flaw()", x.flaw(), flaw);
        due(what + ": fault()", x.fault(), fault);
        due(what + ": stopped()", x.stopped(), stopped);
    }

    /** flaw() is 1, stopped() 0, PLACE 1 BARRED, the TAPE has 301 bytes. */
    private static TailPatches resting() {
        TailPatches x = Calls.with(Calls.row(1, 2, 3, 4), Calls.row(2, 3, 4, 5));
        x.bar(1, 1);
        Calls.recipe(x, 0, "again 1 back 1");
        x.make(0);
        x.apply(0);
        Calls.bring(x, 1, 9);
        x.apply(1);
        Calls.tape(x, new int[301]);
        due("flaw() ahead", x.flaw(), 1);
        due("stopped() ahead", x.stopped(), 0);
        return x;
    }

    /** A REFUSED call is no act: FILES, SLOTS, BARRED, TERMS, the TAPE, what is told of the latest ones stay. */
    private static void whatIsRefusedChangesNothing() {
        Supplier<TailPatches> rest = () -> resting();
        left("terms", rest, x -> x.terms(0, 10), -1);
        left("file, no room", rest, x -> x.file(0), -5);
        left("bring, no room", rest, x -> x.bring(0), -5);
        left("bar, it is so", rest, x -> x.bar(1, 1), -4);
        left("recipe", rest, x -> x.recipe(3), -1);
        left("set, it is so", rest, x -> x.set(0, 2), -4);
        left("cut", rest, x -> x.cut(3, 2), -1);
        left("move", rest, x -> x.move(1, 2, 1), -4);
        left("make", rest, x -> x.make(3), -1);
        left("join", rest, x -> x.join(0, 2, 1), -2);
        left("turn", rest, x -> x.turn(2, 1), -2);
        left("apply", rest, x -> x.apply(2), -2);
        left("begin", rest, x -> x.begin(3), -1);
    }

    /** fault() is 4, SLOT 1 has one BYTE, a RUN goes on, one BYTE is written, the TAPE has 3 bytes. */
    private static TailPatches going() {
        TailPatches x = Calls.with(Calls.row(1, 2, 3, 4), Calls.row(2, 3, 4, 5));
        Calls.recipe(x, 0, "take");
        x.make(0);
        x.begin(0);
        x.write(1);
        Calls.bring(x, 1, 9);
        Calls.tape(x, 1, 2, 3);
        due("fault() ahead", x.fault(), 4);
        return x;
    }

    /** A REFUSED call is no act: the RUN, too, is as it was. */
    private static void whatIsRefusedLeavesTheRun() {
        Supplier<TailPatches> run = () -> going();
        left("file, a RUN", run, x -> x.file(1), -4);
        left("begin, a RUN", run, x -> x.begin(2), -2);
        left("write", run, x -> x.write(-1), -1);
        left("spoil", run, x -> x.spoil(1, 1, 0), -4);
        left("spoil, it is so", run, x -> x.spoil(1, 0, 9), -4);
        left("seal, fewer than 2", run, x -> x.seal(1), -4);
        left("drop", run, x -> x.drop(2), -2);
        left("swap", run, x -> x.swap(), -4);
        left("advance", run, x -> x.advance(), -4);
        TailPatches x = going();
        x.begin(1);
        x.swap();
        due("the latest act is the one that was not REFUSED", x.undo(), 1);
        due("and the RUN is the one that was not REFUSED", x.left(), 3);
        due("it goes on", x.write(3), 0);
        Calls.dueFile("it goes on", x, 0, 2, 3, 4, 5);
    }

    public static void main(String[] args) {
        filesAreThree();
        bytesHaveEnds();
        filesHave64AtMost();
        filesAreEmptyAtFirst();
        placesAndSpotsBeginAt0();
        placesAreBarredWhateverOldHas();
        slotsAreThree();
        patchesHave300AtMost();
        slotsHaveNoneAtFirst();
        termsHaveEnds();
        checksGoRound();
        theTapeHas400AtMost();
        aNumberIsFirst();
        theOthersInTheirOrder();
        whatIsRefusedChangesNothing();
        whatIsRefusedLeavesTheRun();
        Calls.close();
    }
}
