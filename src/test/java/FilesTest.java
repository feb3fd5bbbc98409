/** Promises 1 to 11 and 15 to 18: what there is, the TAPE, FILES, acts on NEW. */
public final class FilesTest {
    private static void due(String call, int got, int want) {
        Calls.due(call, got, want);
    }

    private static void promise1() {
        TailPatches x = new TailPatches();
        for (int i = 0; i < 3; i++) {
            due("1 size", x.size(i), 0);
            due("1 length", x.length(i), -1);
        }
        due("1 NONE", TailPatches.NONE, -1);
        due("1 fault", x.fault(), -1);
        due("1 stopped", x.stopped(), -1);
        due("1 left", x.left(), -1);
        due("1 flaw", x.flaw(), 0);
        due("1 status", x.status(), 0);
        due("1 loaded 0", x.loaded(0), 0);
        due("1 loaded 1", x.loaded(1), 0);
        for (int i = 3; i <= 12; i++) {
            due("1 count " + i, x.count(i), 0);
        }
        int[] terms = {3, 1, 1, 1, 2};
        for (int i = 0; i < 5; i++) {
            due("1 term " + i, x.count(13 + i), terms[i]);
        }
    }

    private static void promises2and3() {
        TailPatches x = Calls.with(Calls.row(7, 8, 255), Calls.rising(1, 64));
        due("2 OLD", x.size(0), 3);
        due("2 NEW", x.size(1), 64);
        due("2 OUT", x.size(2), 0);
        due("2 no file", x.size(3), -1);
        due("2 below", x.size(-1), -1);
        due("3 first", x.byteOf(0, 0), 7);
        due("3 last", x.byteOf(0, 2), 255);
        due("3 behind", x.byteOf(0, 3), -1);
        due("3 below", x.byteOf(0, -1), -1);
        due("3 NEW's last", x.byteOf(1, 63), 64);
        due("3 far behind", x.byteOf(1, 64), -1);
        due("3 OUT is empty", x.byteOf(2, 0), -1);
        due("3 no file", x.byteOf(3, 0), -1);
        due("3 no file", x.byteOf(-1, 0), -1);
        due("3 greatest", x.byteOf(0, Integer.MAX_VALUE), -1);
    }

    private static void promises4and5() {
        TailPatches x = new TailPatches();
        Calls.bring(x, 1, 7, 0, 255);
        Calls.duePatch("4, 5", x, 1, 7, 0, 255);
        due("4 none", x.length(0), -1);
        due("4 no slot", x.length(3), -1);
        due("4 below", x.length(-1), -1);
        due("5 behind", x.patch(1, 3), -1);
        due("5 below", x.patch(1, -1), -1);
        due("5 none", x.patch(0, 0), -1);
        due("5 no slot", x.patch(3, 0), -1);
    }

    private static void promise6() {
        int[][] limits = {{2, 9, 3}, {0, 9, 1}, {1, 9, 1}, {0, 9, 1}, {1, 6, 2}};
        TailPatches x = new TailPatches();
        for (int i = 0; i < 5; i++) {
            Calls.refused("6 too low " + i, x, x.terms(i, limits[i][0] - 1), -1, 2 * i);
            Calls.refused("6 too high " + i, x, x.terms(i, limits[i][1] + 1), -1, 2 * i + 1);
            due("6 lowest " + i, x.terms(i, limits[i][0]), limits[i][2]);
            due("6 status", x.status(), 0);
            due("6 highest " + i, x.terms(i, limits[i][1]), limits[i][0]);
            due("6 the same once more " + i, x.terms(i, limits[i][1]), limits[i][1]);
            due("6 stands " + i, x.count(13 + i), limits[i][1]);
        }
        Calls.refused("6 no term", x, x.terms(5, 2), -1, 10);
        Calls.refused("6 below", x, x.terms(-1, 2), -1, 11);
        due("6 no act to undo", x.count(5), 0);
    }

    private static void promises7and8() {
        TailPatches x = new TailPatches();
        due("7 first", x.feed(0x01020304, 0xFFFEFDFC, 0x80000000, 0, 0x7F), 20);
        due("7 bytes", x.file(0), 20);
        Calls.dueFile("7", x, 0, 1, 2, 3, 4, 255, 254, 253, 252, 128, 0, 0, 0, 0, 0, 0, 0, 0, 0, 0, 127);
        due("8 empty", x.end(0), 0);
        due("8 more than it has", x.end(1), -1);
        due("8 below", x.end(-1), -1);
        for (int i = 1; i <= 20; i++) {
            due("7 room", x.feed(i, i, i, i, i), 20 * i);
        }
        due("7 no room", x.feed(0, 0, 0, 0, 0), -1);
        due("7 it stays", x.count(6), 400);
        due("8 all", x.end(400), 400);
        due("8 one more", x.end(401), -1);
        due("8 some", x.end(381), 381);
        due("7 one too many", x.feed(0, 0, 0, 0, 0), -1);
        due("8 one fewer", x.end(380), 380);
        due("7 just room", x.feed(0, 0, 0, 0, 0), 400);
        due("7, 8 are not REFUSED", x.count(7), 0);
        due("7, 8 have no status", x.status(), 0);
    }

    private static void promise9() {
        TailPatches x = new TailPatches();
        Calls.tape(x, Calls.rising(0, 64));
        due("9 all there is room for", x.file(0), 64);
        due("9 the tape is empty", x.count(6), 0);
        due("9 none", x.file(0), 0);
        due("9 none is there", x.size(0), 0);
        Calls.tape(x, Calls.rising(0, 65));
        Calls.refused("9 no room", x, x.file(1), -5, 0);
        due("9 the tape stays", x.count(6), 65);
        Calls.refused("9 OUT", x, x.file(2), -1, 0);
        Calls.refused("9 below", x, x.file(-1), -1, 1);
        due("9 acts", x.count(5), 2);
        due("9 status", x.undo(), 0);
        due("9 undone", x.size(0), 64);
        x = Calls.with(Calls.row(1, 2), Calls.row());
        Calls.recipe(x, 0, "take 2 at 0");
        x.begin(0);
        Calls.tape(x, Calls.rising(0, 65));
        Calls.refused("9 a RUN ahead of no room", x, x.file(1), -4, 0);
        Calls.refused("9 no file ahead of a RUN", x, x.file(2), -1, 0);
        due("9 the tape stays", x.count(6), 65);
    }

    private static void promise10() {
        TailPatches x = new TailPatches();
        Calls.refused("10 an empty tape", x, x.bring(0), -4, 0);
        Calls.refused("10 no slot", x, x.bring(3), -1, 0);
        Calls.refused("10 below", x, x.bring(-1), -1, 1);
        due("10 all there is room for", Calls.bring(x, 2, new int[300]), 300);
        due("10 the tape is empty", x.count(6), 0);
        due("10 length", x.length(2), 300);
        due("10 the last", x.patch(2, 299), 0);
        Calls.tape(x, new int[301]);
        Calls.refused("10 no room", x, x.bring(2), -5, 0);
        due("10 the tape stays", x.count(6), 301);
        due("10 whatever it is", Calls.bring(x, 2, 9), 1);
        due("10 it is another one", x.patch(2, 1), -1);
        due("10 acts", x.count(5), 2);
    }

    private static void promise11() {
        TailPatches x = new TailPatches();
        due("11 one", x.bar(0, 1), 1);
        due("11 the last", x.bar(63, 1), 2);
        due("11 one fewer", x.bar(0, 0), 1);
        due("11 count", x.count(3), 1);
        Calls.refused("11 it is so", x, x.bar(63, 1), -4, 0);
        Calls.refused("11 it is not", x, x.bar(5, 0), -4, 1);
        Calls.refused("11 no place", x, x.bar(64, 1), -1, 0);
        Calls.refused("11 below", x, x.bar(-1, 0), -1, 1);
        Calls.refused("11 yes", x, x.bar(1, 2), -1, 2);
        Calls.refused("11 yes below", x, x.bar(1, -1), -1, 3);
        Calls.old(x, 1, 1, 1);
        x.bar(1, 1);
        due("11 a TAIL fewer", x.sorted(2, 0), -1);
        due("11 a TAIL ends ahead of it", x.sorted(0, 1), 1);
        Calls.old(x, 1, 1, 1, 1);
        due("11 whatever OLD has", x.count(3), 2);
    }

    private static void promise15() {
        TailPatches x = Calls.with(Calls.row(), Calls.row(5, 6));
        due("15 first", x.set(0, 255), 5);
        due("15 last", x.set(1, 0), 6);
        Calls.dueFile("15", x, 1, 255, 0);
        Calls.refused("15 it is so", x, x.set(1, 0), -4, 0);
        Calls.refused("15 behind", x, x.set(2, 0), -1, 0);
        Calls.refused("15 below", x, x.set(-1, 0), -1, 1);
        Calls.refused("15 no byte", x, x.set(0, 256), -1, 2);
        Calls.refused("15 below 0", x, x.set(0, -1), -1, 3);
        Calls.refused("15 no byte, it is not there", x, x.set(9, 999), -1, 4);
    }

    private static void promise16() {
        TailPatches x = Calls.with(Calls.row(), Calls.row(1, 2, 3, 4, 5));
        due("16 within", x.cut(1, 2), 3);
        Calls.dueFile("16", x, 1, 1, 4, 5);
        Calls.refused("16 one too many", x, x.cut(1, 3), -1, 0);
        Calls.refused("16 none", x, x.cut(0, 0), -1, 1);
        Calls.refused("16 below", x, x.cut(-1, 1), -1, 2);
        Calls.refused("16 n below", x, x.cut(0, -1), -1, 3);
        Calls.refused("16 behind", x, x.cut(3, 1), -1, 4);
        Calls.refused("16 greatest", x, x.cut(2, Integer.MAX_VALUE), -1, 5);
        due("16 the last", x.cut(2, 1), 2);
        due("16 all", x.cut(0, 2), 0);
        Calls.refused("16 none is left", x, x.cut(0, 1), -1, 6);
    }

    private static void promise17() {
        TailPatches x = Calls.with(Calls.row(), Calls.row());
        due("17 the first", x.put(0, 9), 1);
        due("17 behind the last", x.put(1, 8), 2);
        due("17 ahead", x.put(0, 7), 3);
        due("17 within", x.put(1, 0), 4);
        Calls.dueFile("17", x, 1, 7, 0, 9, 8);
        Calls.refused("17 too far", x, x.put(5, 0), -1, 0);
        Calls.refused("17 below", x, x.put(-1, 0), -1, 1);
        Calls.refused("17 no byte", x, x.put(0, 256), -1, 2);
        Calls.refused("17 below 0", x, x.put(0, -1), -1, 3);
        Calls.fresh(x, Calls.rising(0, 63));
        due("17 the 64th", x.put(63, 1), 64);
        Calls.refused("17 no room", x, x.put(64, 1), -5, 0);
        Calls.refused("17 too far ahead of no room", x, x.put(65, 1), -1, 4);
    }

    private static void promise18() {
        TailPatches x = Calls.with(Calls.row(), Calls.row(1, 2, 3, 4, 5));
        due("18 on", x.move(0, 2, 3), 5);
        Calls.dueFile("18", x, 1, 3, 4, 5, 1, 2);
        due("18 back", x.move(2, 1, 1), 2);
        Calls.dueFile("18", x, 1, 3, 5, 4, 1, 2);
        Calls.refused("18 the same", x, x.move(1, 2, 1), -4, 0);
        Calls.refused("18 not all are there", x, x.move(4, 2, 0), -1, 0);
        Calls.refused("18 too far", x, x.move(0, 2, 4), -1, 1);
        Calls.refused("18 below", x, x.move(0, 2, -1), -1, 2);
        Calls.refused("18 none", x, x.move(0, 0, 1), -1, 3);
        Calls.refused("18 spot below", x, x.move(-1, 1, 1), -1, 4);
        Calls.refused("18 greatest", x, x.move(1, Integer.MAX_VALUE, 1), -1, 5);
        Calls.refused("18 greatest to", x, x.move(1, 1, Integer.MAX_VALUE), -1, 6);
        Calls.refused("18 not there ahead of the same", x, x.move(4, 2, 4), -1, 7);
        Calls.fresh(x, 6, 6, 6, 7);
        due("18 like bytes are not other ones", x.move(0, 1, 1), 0);
        due("18 two are other ones", x.move(0, 3, 1), 2);
        Calls.dueFile("18", x, 1, 7, 6, 6, 6);
    }

    public static void main(String[] args) {
        promise1();
        promises2and3();
        promises4and5();
        promise6();
        promises7and8();
        promise9();
        promise10();
        promise11();
        promise15();
        promise16();
        promise17();
        promise18();
        Calls.close();
    }
}
