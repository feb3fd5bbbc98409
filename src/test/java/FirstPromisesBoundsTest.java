/** Promises 1 to 18: each sentence that tells where something ends has a test of its own, in the document's order. */
public final class FirstPromisesBoundsTest {
    private static final int[] ODD = {Integer.MIN_VALUE, -2, -1, 3, 64, 300, Integer.MAX_VALUE};

    private static void due(String call, int got, int want) {
        Calls.due(call, got, want);
    }

    /** 1: "Empty files, no patches." and all else "at first", "ahead of any" */
    private static void promise1() {
        TailPatches x = new TailPatches();
        for (int i = 0; i < 3; i++) {
            due("1 size", x.size(i), 0);
            due("1 length", x.length(i), -1);
            due("1 byteOf", x.byteOf(i, 0), -1);
            due("1 patch", x.patch(i, 0), -1);
            due("1 parts", x.parts(i), -1);
            due("1 part", x.part(i, 0, 0), -1);
            due("1 way", x.way(i, 0), -1);
            due("1 order", x.order(i, 0), -1);
            due("1 dropped", x.dropped(i, 0), -1);
            due("1 flawOf", x.flawOf(i), -1);
            due("1 stay", x.stay(i), -1);
            due("1 save", x.save(i, 0), -1);
            due("1 listed", x.listed(i), -1);
            due("1 listing", x.listing(i, 0), -1);
        }
        due("1 fault", x.fault(), -1);
        due("1 stopped", x.stopped(), -1);
        due("1 flaw", x.flaw(), 0);
        due("1 loaded 0", x.loaded(0), 0);
        due("1 loaded 1", x.loaded(1), 0);
        due("1 left", x.left(), -1);
        due("1 status", x.status(), 0);
        due("1 sorted", x.sorted(0, 0), -1);
        due("1 match", x.match(0, 0), -1);
        due("1 origin", x.origin(0, 0), -1);
        due("1 apart", x.apart(), 0);
        due("1 ANCHORS", x.count(0), 1);
        due("1 PARTS", x.count(1), 0);
        due("1 BYTES", x.count(2), 9);
        for (int what = 3; what <= 12; what++) {
            due("1 count " + what, x.count(what), 0);
        }
    }

    /** 2: "How many BYTES a FILE has." */
    private static void promise2() {
        TailPatches x = Calls.with(Calls.rising(0, 64), Calls.row(9));
        due("2 64", x.size(0), 64);
        due("2 1", x.size(1), 1);
        due("2 0", x.size(2), 0);
    }

    /** 2: "NONE." */
    private static void promise2none() {
        TailPatches x = Calls.with(Calls.row(1), Calls.row(1));
        x.make(0);
        x.apply(0);
        due("2 OUT has one", x.size(2), 1);
        for (int file : ODD) {
            due("2 size(" + file + ")", x.size(file), -1);
        }
    }

    /** 3: "A FILE's BYTE at i." */
    private static void promise3() {
        TailPatches x = Calls.with(Calls.row(0, 7, 255), Calls.rising(1, 64));
        Calls.dueFile("3", x, 0, 0, 7, 255);
        due("3 the first of 64", x.byteOf(1, 0), 1);
        due("3 the last of 64", x.byteOf(1, 63), 64);
    }

    /** 3: "NONE." */
    private static void promise3none() {
        TailPatches x = Calls.with(Calls.row(1, 2, 3), Calls.rising(0, 64));
        for (int odd : ODD) {
            due("3 byteOf(" + odd + ", 0)", x.byteOf(odd, 0), -1);
            due("3 byteOf(0, " + odd + ")", x.byteOf(0, odd), -1);
            due("3 byteOf(2, " + odd + ")", x.byteOf(2, odd), -1);
        }
        due("3 behind the last of 64", x.byteOf(1, 64), -1);
        due("3 of none", x.byteOf(2, 0), -1);
        x.make(0);
        x.apply(0);
        due("3 OUT's last", x.byteOf(2, 63), 63);
        for (int odd : ODD) {
            due("3 OUT is there: byteOf(" + odd + ", 0)", x.byteOf(odd, 0), -1);
        }
        x.cut(0, 1);
        due("3 one that is gone", x.byteOf(1, 63), -1);
        Calls.fresh(x, 5);
        due("3 one of the FILE that was there", x.byteOf(1, 1), -1);
    }

    /** 4: "How many BYTES a PATCH has." */
    private static void promise4() {
        TailPatches x = new TailPatches();
        Calls.bring(x, 0, 5);
        Calls.bring(x, 2, new int[300]);
        due("4 1", x.length(0), 1);
        due("4 300", x.length(2), 300);
    }

    /** 4: "NONE (there is none, too)." */
    private static void promise4none() {
        TailPatches x = new TailPatches();
        Calls.bring(x, 0, 5);
        due("4 there is none", x.length(1), -1);
        x.drop(0);
        due("4 there is none any more", x.length(0), -1);
        for (int slot : ODD) {
            due("4 length(" + slot + ")", x.length(slot), -1);
        }
    }

    /** 5: "A PATCH's BYTE at an INDEX." */
    private static void promise5() {
        TailPatches x = new TailPatches();
        Calls.bring(x, 1, 9, 0, 255);
        Calls.duePatch("5", x, 1, 9, 0, 255);
    }

    /** 5: "NONE." */
    private static void promise5none() {
        TailPatches x = new TailPatches();
        Calls.bring(x, 0, 1, 2, 3, 4);
        Calls.bring(x, 0, 9, 8, 7);
        for (int odd : ODD) {
            due("5 patch(" + odd + ", 0)", x.patch(odd, 0), -1);
            due("5 patch(0, " + odd + ")", x.patch(0, odd), -1);
            due("5 patch(1, " + odd + ")", x.patch(1, odd), -1);
        }
        due("5 of none", x.patch(1, 0), -1);
        x.drop(0);
        due("5 of none any more", x.patch(0, 0), -1);
    }

    /** 6: "A TERM: what it was." */
    private static void promise6() {
        TailPatches x = new TailPatches();
        due("6 at first", x.terms(0, 9), 3);
        due("6 then", x.terms(0, 2), 9);
        due("6 the same once more", x.terms(0, 2), 2);
        due("6 status", x.status(), 0);
        due("6 it is no act", x.count(5), 0);
    }

    /** 6: "-1." */
    private static void promise6refused() {
        for (int what : new int[] {Integer.MIN_VALUE, -1, 5, 6, Integer.MAX_VALUE}) {
            Calls.stays("6 terms(" + what + ", 3)", TailPatches::new, x -> x.terms(what, 3), -1);
        }
        for (int what = 0; what < 5; what++) {
            int term = what;
            for (int value : new int[] {Integer.MIN_VALUE, -1, 10, Integer.MAX_VALUE}) {
                Calls.stays("6 terms(" + what + ", " + value + ")", TailPatches::new, x -> x.terms(term, value), -1);
            }
        }
        Calls.stays("6 LEAST 1", TailPatches::new, x -> x.terms(0, 1), -1);
        Calls.stays("6 GAIN 0", TailPatches::new, x -> x.terms(2, 0), -1);
        Calls.stays("6 FRAMES 0", TailPatches::new, x -> x.terms(4, 0), -1);
        Calls.stays("6 FRAMES 7", TailPatches::new, x -> x.terms(4, 7), -1);
    }

    /** 7: "Twenty bytes come behind the TAPE, four of each number, the highest first: how many it has." */
    private static void promise7() {
        TailPatches x = new TailPatches();
        due("7 twenty", x.feed(0x01020304, 0x80FF007F, -1, Integer.MIN_VALUE, Integer.MAX_VALUE), 20);
        due("7 forty", x.feed(5, 6, 7, 8, 9), 40);
        due("7 40 bytes", x.file(0), 40);
        Calls.dueFile("7", x, 0, 1, 2, 3, 4, 128, 255, 0, 127, 255, 255, 255, 255, 128, 0, 0, 0, 127, 255, 255, 255,
                0, 0, 0, 5, 0, 0, 0, 6, 0, 0, 0, 7, 0, 0, 0, 8, 0, 0, 0, 9);
        x.feed(0x01020304, 0, 0, 0, 0);
        x.end(2);
        due("7 behind what it has", x.feed(0x09080706, 0, 0, 0, 0), 22);
        x.end(5);
        x.file(0);
        Calls.dueFile("7 behind", x, 0, 1, 2, 9, 8, 7);
    }

    /** 7: "NONE, if there would be more than 400." */
    private static void promise7none() {
        TailPatches x = new TailPatches();
        for (int i = 1; i <= 20; i++) {
            x.feed(i, i, i, i, i);
        }
        due("7 400", x.count(6), 400);
        due("7 no more", x.feed(7, 7, 7, 7, 7), -1);
        due("7 they stay", x.count(6), 400);
        due("7 it is not REFUSED", x.count(7), 0);
        due("7 nor told by status()", x.status(), 0);
        x.end(64);
        x.file(0);
        due("7 the first", x.byteOf(0, 3), 1);
        due("7 the 64th", x.byteOf(0, 63), 4);
    }

    /** 8: "The TAPE has its first n bytes alone: n." */
    private static void promise8() {
        TailPatches x = new TailPatches();
        due("8 none of none", x.end(0), 0);
        x.feed(0x01020304, 0, 0, 0, 0);
        due("8 all", x.end(20), 20);
        due("8 three", x.end(3), 3);
        due("8 it has three", x.count(6), 3);
        x.file(0);
        Calls.dueFile("8", x, 0, 1, 2, 3);
        x.feed(1, 2, 3, 4, 5);
        due("8 none", x.end(0), 0);
        due("8 it has none", x.count(6), 0);
    }

    /** 8: "NONE, if it has not so many, or n is below 0." */
    private static void promise8none() {
        TailPatches x = new TailPatches();
        due("8 one of none", x.end(1), -1);
        x.feed(0x01020304, 0, 0, 0, 0);
        due("8 one too many", x.end(21), -1);
        due("8 below", x.end(-1), -1);
        due("8 the least", x.end(Integer.MIN_VALUE), -1);
        due("8 the most", x.end(Integer.MAX_VALUE), -1);
        due("8 it has what it had", x.count(6), 20);
        x.end(3);
        due("8 what was taken off is gone", x.end(4), -1);
        due("8 it is not REFUSED", x.count(7), 0);
        due("8 nor told by status()", x.status(), 0);
    }

    /** 9: "The TAPE's bytes (none, too) become a FILE 0, 1, it is empty then (not, if REFUSED): how many." */
    private static void promise9() {
        TailPatches x = new TailPatches();
        for (int file = 0; file < 2; file++) {
            Calls.tape(x, 4, 5, 6);
            due("9 three", x.file(file), 3);
            Calls.dueFile("9", x, file, 4, 5, 6);
            due("9 the TAPE is empty", x.count(6), 0);
            due("9 none", x.file(file), 0);
            due("9 the FILE is empty", x.size(file), 0);
        }
        due("9 each is an act", x.count(5), 4);
    }

    /** 9: "-1" */
    private static void promise9number() {
        TailPatches x = Calls.with(Calls.row(1), Calls.row(2));
        Calls.tape(x, 4, 5, 6);
        for (int file : new int[] {-1, 2, 3, Integer.MIN_VALUE, Integer.MAX_VALUE}) {
            Calls.stays("9 file(" + file + ")", x, () -> x.file(file), -1);
            due("9 the TAPE is not empty", x.count(6), 3);
        }
    }

    /** 9: "-4 a RUN goes on" */
    private static void promise9run() {
        TailPatches x = Calls.with(Calls.row(1), Calls.row(1, 2));
        x.make(0);
        x.begin(0);
        Calls.tape(x, 4, 5, 6);
        Calls.stays("9 OLD, a RUN", x, () -> x.file(0), -4);
        Calls.stays("9 NEW, a RUN", x, () -> x.file(1), -4);
        due("9 the TAPE is not empty", x.count(6), 3);
        x.write(2);
        due("9 it is over", x.file(0), 3);
    }

    /** 9: "-5." */
    private static void promise9room() {
        TailPatches x = new TailPatches();
        Calls.tape(x, Calls.rising(0, 65));
        Calls.stays("9 OLD of 65", x, () -> x.file(0), -5);
        Calls.stays("9 NEW of 65", x, () -> x.file(1), -5);
        due("9 the TAPE is not empty", x.count(6), 65);
        x.end(64);
        due("9 64", x.file(0), 64);
    }

    /** 10: "The TAPE's bytes become a PATCH, whatever they are, it is empty then (not, if REFUSED): how many." */
    private static void promise10() {
        TailPatches x = new TailPatches();
        for (int slot = 0; slot < 3; slot++) {
            due("10 one", Calls.bring(x, slot, 255), 1);
            due("10 the TAPE is empty", x.count(6), 0);
            due("10 others", Calls.bring(x, slot, 0, 0, 0), 3);
            Calls.duePatch("10 in its place", x, slot, 0, 0, 0);
        }
        due("10 300", Calls.bring(x, 0, new int[300]), 300);
        due("10 each is an act", x.count(5), 7);
        TailPatches y = running();
        due("10 while a RUN goes on", Calls.bring(y, 0, 1, 2), 2);
    }

    private static TailPatches running() {
        TailPatches x = Calls.with(Calls.row(1, 2), Calls.row(2, 1));
        x.make(0);
        x.begin(0);
        return x;
    }

    /** 10: "-1; -4 it is empty; -5." */
    private static void promise10refused() {
        TailPatches x = new TailPatches();
        Calls.bring(x, 1, 7);
        Calls.stays("10 it is empty", x, () -> x.bring(1), -4);
        Calls.tape(x, new int[301]);
        Calls.stays("10 301", x, () -> x.bring(1), -5);
        due("10 the TAPE is not empty", x.count(6), 301);
        x.end(2);
        Calls.stays("10 bring(3)", x, () -> x.bring(3), -1);
        Calls.stays("10 bring(-1)", x, () -> x.bring(-1), -1);
        due("10 the TAPE is not empty", x.count(6), 2);
    }

    /** 11: "A PLACE is BARRED (no: is not so any more): how many are then." */
    private static void promise11() {
        TailPatches x = new TailPatches();
        due("11 PLACE 0", x.bar(0, 1), 1);
        due("11 PLACE 63", x.bar(63, 1), 2);
        due("11 PLACE 0 no more", x.bar(0, 0), 1);
        due("11 PLACE 63 no more", x.bar(63, 0), 0);
        for (int place = 0; place < 64; place++) {
            due("11 all", x.bar(place, 1), place + 1);
        }
        due("11 one fewer", x.bar(31, 0), 63);
        TailPatches y = running();
        due("11 while a RUN goes on", y.bar(1, 1), 1);
    }

    /** 11: "-1 (no PLACE 0 .. 63; yes is not 0, 1)" */
    private static void promise11number() {
        for (int place : new int[] {Integer.MIN_VALUE, -1, 64, Integer.MAX_VALUE}) {
            TailPatches x = Calls.with(Calls.row(1, 2), Calls.row());
            Calls.stays("11 bar(" + place + ", 1)", x, () -> x.bar(place, 1), -1);
            Calls.stays("11 bar(" + place + ", 0)", x, () -> x.bar(place, 0), -1);
        }
        for (int yes : new int[] {Integer.MIN_VALUE, -1, 2, Integer.MAX_VALUE}) {
            TailPatches x = Calls.with(Calls.row(1, 2), Calls.row());
            Calls.stays("11 bar(0, " + yes + ")", x, () -> x.bar(0, yes), -1);
        }
    }

    /** 11: "-4 it is so." */
    private static void promise11so() {
        TailPatches x = Calls.with(Calls.row(1, 2), Calls.row());
        Calls.stays("11 it is not BARRED", x, () -> x.bar(1, 0), -4);
        x.bar(1, 1);
        Calls.stays("11 it is BARRED", x, () -> x.bar(1, 1), -4);
        x.bar(1, 0);
        Calls.stays("11 it is not any more", x, () -> x.bar(1, 0), -4);
    }

    /** 12: "becomes a PATCH in a SLOT; but for -1 the TAPE is empty then: how many BYTES it has." */
    private static void promise12() {
        for (int slot = 0; slot < 3; slot++) {
            TailPatches x = new TailPatches();
            Calls.tape(x, Calls.text("say 5"));
            due("12 fine", x.recipe(slot), 13);
            due("12 it has as many", x.length(slot), 13);
            due("12 the TAPE is empty", x.count(6), 0);
            due("12 it is an act", x.count(5), 1);
        }
        for (String text : new String[] {"again 1 back 1", "fill 64 with 1;say 1", "rubbish", "", "   "}) {
            TailPatches x = new TailPatches();
            Calls.bring(x, 0, 1, 2);
            Calls.tape(x, Calls.text(text));
            due("12 \"" + text + "\" is REFUSED", x.recipe(0) < -1 ? 1 : 0, 1);
            due("12 \"" + text + "\": the TAPE is empty", x.count(6), 0);
            Calls.duePatch("12 \"" + text + "\": the SLOT has its PATCH", x, 0, 1, 2);
            due("12 \"" + text + "\": it is no act", x.count(5), 1);
        }
        TailPatches y = running();
        due("12 while a RUN goes on", Calls.recipe(y, 0, "say 1") > 0 ? 1 : 0, 1);
    }

    /** 12: "-1" "but for -1 the TAPE is empty then" */
    private static void promise12number() {
        TailPatches x = new TailPatches();
        Calls.tape(x, Calls.text("say 5"));
        for (int slot : new int[] {Integer.MIN_VALUE, -1, 3, Integer.MAX_VALUE}) {
            Calls.stays("12 recipe(" + slot + ")", x, () -> x.recipe(slot), -1);
            due("12 the TAPE stays", x.count(6), 5);
        }
        due("12 it is what it was", x.recipe(0), 13);
    }

    /** 12: "(of -4, -5 that of the first STEP that can't be or has no room; of one for which both is so -4)" */
    private static void promise12first() {
        String[] texts = {"take 9 at 0;fill 64 with 1;say 1", "fill 64 with 1;say 1;take 9 at 0",
            "fill 64 with 1;take 9 at 0", "fill 64 with 1;take 1 at 0", "again 64 back 64;say 1",
            "say 1;again 64 back 2", "say 1;again 64 back 1", "times 9(fill 8 with 1);take 9 at 0",
            "times 9(fill 8 with 1;again 1 back 64)"};
        int[] by = {-4, -5, -4, -5, -4, -4, -5, -5, -4};
        int[] stopped = {0, 1, 1, 1, 0, 1, 1, 1, 2};
        for (int i = 0; i < texts.length; i++) {
            TailPatches x = new TailPatches();
            Calls.old(x, 1, 2, 3);
            due("12 " + texts[i], Calls.recipe(x, 0, texts[i]), by[i]);
            due("12 " + texts[i] + ": status()", x.status(), by[i]);
            due("14 " + texts[i], x.stopped(), stopped[i]);
        }
    }

    /** 12: "-6 it can't be read (FAULT; nothing is run; blanks alone: at the end)." */
    private static void promise12read() {
        TailPatches x = new TailPatches();
        due("12 nothing", Calls.recipe(x, 0, ""), -6);
        due("13 at the end", x.fault(), 0);
        due("12 one blank", Calls.recipe(x, 0, " "), -6);
        due("13 at the end", x.fault(), 1);
        due("12 400 blanks", Calls.recipe(x, 0, " ".repeat(400)), -6);
        due("13 at the end", x.fault(), 400);
        due("12 a STEP that can't be, then a FAULT", Calls.recipe(x, 0, "take 1 at 0;x"), -6);
        due("13 the FAULT", x.fault(), 12);
        due("14 nothing is run", x.stopped(), -1);
        due("12 no PATCH", x.length(0), -1);
    }

    /** 13: "FAULT of the latest recipe() that was not REFUSED by -1" */
    private static void promise13() {
        TailPatches x = new TailPatches();
        Calls.recipe(x, 0, "say");
        due("13", x.fault(), 3);
        x.recipe(3);
        due("13 not of one REFUSED by -1", x.fault(), 3);
        Calls.tape(x, Calls.text("x"));
        x.recipe(-1);
        due("13 not of one REFUSED by -1", x.fault(), 3);
        x.recipe(0);
        due("13 of the latest", x.fault(), 0);
        Calls.bring(x, 0, 1);
        x.undo();
        due("13 it is not undone", x.fault(), 0);
    }

    /** 13: "NONE without one, ahead of any." */
    private static void promise13none() {
        TailPatches x = new TailPatches();
        due("13 ahead of any", x.fault(), -1);
        x.recipe(3);
        due("13 ahead of any but one REFUSED by -1", x.fault(), -1);
        Calls.recipe(x, 0, "say");
        Calls.recipe(x, 0, "say 1");
        due("13 without one", x.fault(), -1);
        Calls.recipe(x, 0, "say");
        Calls.recipe(x, 0, "again 1 back 1");
        due("13 without one, though it can't be", x.fault(), -1);
        Calls.recipe(x, 0, "say");
        Calls.recipe(x, 0, "fill 64 with 1;say 1");
        due("13 without one, though there is no room", x.fault(), -1);
    }

    /** 14: "STEPS counted from 0 on as their first words stand in the TEXT ("times", too)" */
    private static void promise14() {
        String[] texts = {"take 1 at 9", "say 1;take 1 at 9", "times 2(take 1 at 9)", "times 2(say 1);take 1 at 9",
            "times 2(say 1;times 2(say 2));take 1 at 9", "times 9(say 1;times 8(say 1))",
            Calls.many(23, "say 1", ";") + ";take 1 at 9", "times 1(times 1(times 1(times 1(take 1 at 9))))",
            "say 1;times 9(again 8 back 1)", "times 2(again 1 back 1;say 1)"};
        int[] want = {0, 1, 1, 2, 4, 3, 23, 4, 2, 1};
        for (int i = 0; i < texts.length; i++) {
            TailPatches x = new TailPatches();
            Calls.recipe(x, 0, texts[i]);
            due("14 " + texts[i], x.stopped(), want[i]);
        }
    }

    /** 14: "the latest recipe() that was not REFUSED by -1"; "NONE without one, ahead of any." */
    private static void promise14none() {
        TailPatches x = new TailPatches();
        due("14 ahead of any", x.stopped(), -1);
        Calls.recipe(x, 0, "take 1 at 0");
        due("14 the first", x.stopped(), 0);
        x.recipe(3);
        due("14 not of one REFUSED by -1", x.stopped(), 0);
        Calls.recipe(x, 0, "say 1");
        due("14 without one", x.stopped(), -1);
        Calls.recipe(x, 0, "take 1 at 0");
        Calls.recipe(x, 0, "take 1 at");
        due("14 of one that can't be read", x.stopped(), -1);
    }

    /** 15: "Another BYTE at a SPOT of NEW: what it was." */
    private static void promise15() {
        TailPatches x = Calls.with(Calls.row(), Calls.row(5, 6, 7));
        due("15 the first", x.set(0, 0), 5);
        due("15 the last", x.set(2, 255), 7);
        Calls.dueFile("15", x, 1, 0, 6, 255);
        TailPatches y = running();
        due("15 while a RUN goes on", y.set(0, 9), 2);
    }

    /** 15: "-1; -4 it is so." */
    private static void promise15refused() {
        for (int spot : new int[] {Integer.MIN_VALUE, -1, 3, 63, Integer.MAX_VALUE}) {
            TailPatches x = Calls.with(Calls.row(), Calls.row(5, 6, 7));
            Calls.stays("15 set(" + spot + ", 1)", x, () -> x.set(spot, 1), -1);
        }
        for (int value : new int[] {Integer.MIN_VALUE, -1, 256, Integer.MAX_VALUE}) {
            TailPatches x = Calls.with(Calls.row(), Calls.row(5, 6, 7));
            Calls.stays("15 set(0, " + value + ")", x, () -> x.set(0, value), -1);
        }
        TailPatches x = Calls.with(Calls.row(), Calls.row(5, 6, 7));
        Calls.stays("15 it is so", x, () -> x.set(1, 6), -4);
        TailPatches y = new TailPatches();
        Calls.stays("15 NEW is empty", y, () -> y.set(0, 0), -1);
    }

    /** 16: "n BYTES (1 and more) of NEW from a SPOT on go: how many it has then." */
    private static void promise16() {
        TailPatches x = Calls.with(Calls.row(), Calls.row(1, 2, 3, 4, 5, 6));
        due("16 the last", x.cut(5, 1), 5);
        due("16 within", x.cut(1, 2), 3);
        Calls.dueFile("16", x, 1, 1, 4, 5);
        due("16 all", x.cut(0, 3), 0);
        TailPatches y = Calls.with(Calls.row(), Calls.rising(0, 64));
        due("16 all 64", y.cut(0, 64), 0);
        Calls.fresh(y, Calls.rising(0, 64));
        due("16 within 64, far behind", y.cut(40, 3), 61);
        for (int i = 0; i < 61; i++) {
            due("16 within 64, SPOT " + i, y.byteOf(1, i), i < 40 ? i : i + 3);
        }
        due("16 none behind the last", y.byteOf(1, 61), -1);
        TailPatches z = running();
        due("16 while a RUN goes on", z.cut(0, 1), 1);
    }

    /** 16: "-1 (not all of them are there, too)." */
    private static void promise16refused() {
        int[][] wrong = {{0, 0}, {0, -1}, {-1, 1}, {-1, 2}, {3, 1}, {2, 2}, {0, 4}, {1, 3}, {3, 0}, {0, Integer.MAX_VALUE},
            {1, Integer.MAX_VALUE}, {Integer.MAX_VALUE, 1}, {Integer.MIN_VALUE, Integer.MIN_VALUE},
            {Integer.MAX_VALUE, Integer.MAX_VALUE}, {1, Integer.MIN_VALUE}};
        for (int[] w : wrong) {
            TailPatches x = Calls.with(Calls.row(), Calls.row(1, 2, 3));
            Calls.stays("16 cut(" + w[0] + ", " + w[1] + ")", x, () -> x.cut(w[0], w[1]), -1);
        }
        TailPatches y = new TailPatches();
        Calls.stays("16 NEW is empty", y, () -> y.cut(0, 1), -1);
    }

    /** 17: "A BYTE is put into NEW so that it is at a SPOT (the one behind the last, too): how many it has then." */
    private static void promise17() {
        TailPatches x = new TailPatches();
        due("17 into none", x.put(0, 5), 1);
        due("17 behind the last", x.put(1, 255), 2);
        due("17 ahead", x.put(0, 0), 3);
        due("17 within", x.put(1, 9), 4);
        Calls.dueFile("17", x, 1, 0, 9, 5, 255);
        Calls.fresh(x, Calls.rising(0, 63));
        due("17 the 64th", x.put(63, 9), 64);
        due("17 it is there", x.byteOf(1, 63), 9);
        TailPatches y = running();
        due("17 while a RUN goes on", y.put(2, 1), 3);
    }

    /** 17: "-1; -5." */
    private static void promise17refused() {
        TailPatches x = Calls.with(Calls.row(), Calls.row(1, 2));
        for (int spot : new int[] {Integer.MIN_VALUE, -1, 3, Integer.MAX_VALUE}) {
            Calls.stays("17 put(" + spot + ", 1)", x, () -> x.put(spot, 1), -1);
        }
        for (int value : new int[] {Integer.MIN_VALUE, -1, 256, Integer.MAX_VALUE}) {
            Calls.stays("17 put(0, " + value + ")", x, () -> x.put(0, value), -1);
        }
        TailPatches y = Calls.with(Calls.row(), Calls.rising(0, 64));
        Calls.stays("17 ahead of 64", y, () -> y.put(0, 1), -5);
        TailPatches z = Calls.with(Calls.row(), Calls.rising(0, 64));
        Calls.stays("17 behind 64", z, () -> z.put(64, 1), -5);
        due("17 too far", z.put(65, 1), -1);
    }

    /** 18: "taken out and put in so that the first of them is at SPOT to: how many SPOTS have another BYTE then." */
    private static void promise18() {
        TailPatches x = Calls.with(Calls.row(), Calls.row(1, 2, 3, 4, 5));
        due("18 to the end", x.move(0, 2, 3), 5);
        Calls.dueFile("18", x, 1, 3, 4, 5, 1, 2);
        due("18 to the beginning", x.move(4, 1, 0), 5);
        Calls.dueFile("18", x, 1, 2, 3, 4, 5, 1);
        due("18 by one", x.move(1, 1, 2), 2);
        Calls.dueFile("18", x, 1, 2, 4, 3, 5, 1);
        due("18 all but one", x.move(1, 4, 0), 5);
        Calls.dueFile("18", x, 1, 4, 3, 5, 1, 2);
        Calls.fresh(x, 6, 6, 6);
        due("18 like ones: none has another", x.move(0, 1, 2), 0);
        due("18 it is an act", x.undo(), 7);
        TailPatches y = Calls.with(Calls.row(), Calls.rising(0, 64));
        due("18 of 64", y.move(0, 63, 1), 64);
        due("18 the last is the first", y.byteOf(1, 0), 63);
        TailPatches z = running();
        due("18 while a RUN goes on", z.move(0, 1, 1), 2);
    }

    /** 18: "-1 (not all of them are there; n and to together are more than NEW's size; to is below 0)" */
    private static void promise18number() {
        int[][] wrong = {{0, 0, 1}, {0, -1, 1}, {-1, 1, 0}, {3, 1, 0}, {2, 2, 0}, {0, 4, 0}, {0, 1, 3}, {0, 2, 2}, {1, 2, 2},
            {0, 3, 1}, {0, 1, -1}, {1, 1, Integer.MIN_VALUE}, {1, 1, Integer.MAX_VALUE}, {1, Integer.MAX_VALUE, 0},
            {Integer.MAX_VALUE, 1, 0}, {Integer.MIN_VALUE, 1, 0}, {0, Integer.MIN_VALUE, 0}};
        for (int[] w : wrong) {
            TailPatches x = Calls.with(Calls.row(), Calls.row(1, 2, 3));
            Calls.stays("18 move(" + w[0] + ", " + w[1] + ", " + w[2] + ")", x, () -> x.move(w[0], w[1], w[2]), -1);
        }
        TailPatches x = Calls.with(Calls.row(), Calls.row(1, 2, 3));
        due("18 n and to together are NEW's size", x.move(0, 1, 2), 3);
    }

    /** 18: "-4 to is that SPOT." */
    private static void promise18so() {
        TailPatches x = Calls.with(Calls.row(), Calls.row(1, 2, 3));
        Calls.stays("18 one", x, () -> x.move(1, 1, 1), -4);
        Calls.stays("18 all", x, () -> x.move(0, 3, 0), -4);
        Calls.stays("18 the last", x, () -> x.move(2, 1, 2), -4);
    }

    public static void main(String[] args) {
        promise1();
        promise2();
        promise2none();
        promise3();
        promise3none();
        promise4();
        promise4none();
        promise5();
        promise5none();
        promise6();
        promise6refused();
        promise7();
        promise7none();
        promise8();
        promise8none();
        promise9();
        promise9number();
        promise9run();
        promise9room();
        promise10();
        promise10refused();
        promise11();
        promise11number();
        promise11so();
        promise12();
        promise12number();
        promise12first();
        promise12read();
        promise13();
        promise13none();
        promise14();
        promise14none();
        promise15();
        promise15refused();
        promise16();
        promise16refused();
        promise17();
        promise17refused();
        promise18();
        promise18number();
        promise18so();
        Calls.close();
    }
}
