/** Promises 28 to 33, 53, 54: acts on SLOTS and FILES, all acts taken back, counts and status. */
public final class ActsTest {
    private static void due(String call, int got, int want) {
        Calls.due(call, got, want);
    }

    private static void promise28() {
        TailPatches x = new TailPatches();
        Calls.bring(x, 1, 5, 6, 7);
        due("28", x.spoil(1, 2, 255), 7);
        Calls.duePatch("28", x, 1, 5, 6, 255);
        Calls.refused("28 it is so", x, x.spoil(1, 0, 5), -4, 0);
        Calls.refused("28 no such INDEX", x, x.spoil(1, 3, 5), -4, 1);
        Calls.refused("28 the last that can be", x, x.spoil(1, 299, 5), -4, 2);
        Calls.refused("28 none that can be", x, x.spoil(1, 300, 5), -1, 0);
        Calls.refused("28 below", x, x.spoil(1, -1, 5), -1, 1);
        Calls.refused("28 no byte", x, x.spoil(1, 0, 256), -1, 2);
        Calls.refused("28 no byte", x, x.spoil(1, 0, -1), -1, 3);
        Calls.refused("28 no slot", x, x.spoil(3, 0, 0), -1, 4);
        Calls.refused("28 no slot", x, x.spoil(-1, 0, 0), -1, 5);
        Calls.refused("28 none", x, x.spoil(0, 0, 0), -2, 0);
        Calls.refused("28 a wrong number ahead of none", x, x.spoil(0, 300, 0), -1, 6);
        due("28 undone", x.undo(), 14);
        due("28 undone", x.patch(1, 2), 7);
        Calls.bring(x, 2, new int[300]);
        due("28 the last", x.spoil(2, 299, 1), 0);
    }

    private static void promise29() {
        TailPatches x = new TailPatches();
        // 5, 6: 3 and 5 are 8, 24 and 6 are 30.
        Calls.bring(x, 0, 5, 6, 9, 9);
        due("29 it was not", x.seal(0), 1);
        Calls.duePatch("29", x, 0, 5, 6, 0, 30);
        due("29 it was", x.seal(0), 0);
        due("29 both are acts", x.count(5), 3);
        due("29 undone", x.undo(), 15);
        due("29 undone", x.undo(), 15);
        Calls.duePatch("29 undone", x, 0, 5, 6, 9, 9);
        // 253: 3 and 253 are 256.
        Calls.bring(x, 0, 253, 0, 0);
        due("29 256", x.seal(0), 1);
        Calls.duePatch("29 256", x, 0, 253, 1, 0);
        due("29 256 it was", x.seal(0), 0);
        Calls.bring(x, 0, 0, 0);
        due("29 of nothing", x.seal(0), 1);
        Calls.duePatch("29 of nothing", x, 0, 0, 1);
        Calls.bring(x, 0, 1);
        Calls.refused("29 one BYTE", x, x.seal(0), -4, 0);
        Calls.refused("29 none", x, x.seal(1), -2, 0);
        Calls.refused("29 no slot", x, x.seal(3), -1, 0);
        Calls.refused("29 no slot", x, x.seal(-1), -1, 1);
    }

    private static void promise30() {
        TailPatches x = new TailPatches();
        Calls.bring(x, 2, 1, 2, 3);
        due("30", x.drop(2), 3);
        due("30 none then", x.length(2), -1);
        Calls.refused("30 none", x, x.drop(2), -2, 0);
        Calls.refused("30 no slot", x, x.drop(3), -1, 0);
        Calls.refused("30 no slot", x, x.drop(-1), -1, 1);
        due("30 undone", x.undo(), 16);
        Calls.duePatch("30 undone", x, 2, 1, 2, 3);
    }

    private static void promises31and32() {
        TailPatches x = Calls.with(Calls.row(1, 2, 3), Calls.row(4));
        due("31", x.swap(), 1);
        Calls.dueFile("31 OLD", x, 0, 4);
        Calls.dueFile("31 NEW", x, 1, 1, 2, 3);
        due("31 undone", x.undo(), 17);
        Calls.dueFile("31 undone", x, 0, 1, 2, 3);
        Calls.dueFile("31 undone", x, 1, 4);
        Calls.recipe(x, 0, "take 2 at 1");
        x.apply(0);
        due("32", x.advance(), 2);
        Calls.dueFile("32 OLD", x, 0, 2, 3);
        Calls.dueFile("32 OUT", x, 2, 2, 3);
        due("32 undone", x.undo(), 18);
        Calls.dueFile("32 undone", x, 0, 1, 2, 3);
        x.begin(0);
        Calls.refused("31 a RUN", x, x.swap(), -4, 0);
        Calls.refused("32 a RUN", x, x.advance(), -4, 1);
        x.write(9);
        due("32 over", x.advance(), 2);
        x = new TailPatches();
        due("31 nothing", x.swap(), 0);
        due("32 nothing", x.advance(), 0);
    }

    private static void promise33each() {
        TailPatches x = Calls.with(Calls.row(1, 2, 3, 4), Calls.row(2, 3, 4, 5));
        Calls.bring(x, 0, 1, 2, 3);
        due("33 bar", x.bar(9, 1), 1);
        Calls.recipe(x, 1, "take 2 at 2;take 2 at 0");
        x.set(0, 7);
        x.cut(0, 1);
        x.put(0, 8);
        x.move(0, 1, 3);
        x.make(2);
        due("33 as many as were done", x.count(5), 10);
        int[] back = {8, 7, 6, 5, 4, 3, 2, 1, 0, 0};
        for (int i = 0; i < back.length; i++) {
            due("33 " + back[i], x.undo(), back[i]);
            due("33 status", x.status(), 0);
            due("33 fewer", x.count(5), 9 - i);
        }
        Calls.refused("33 there is none", x, x.undo(), -4, 0);
        for (int i = 0; i < 3; i++) {
            due("33 empty", x.size(i), 0);
            due("33 none", x.length(i), -1);
        }
        due("33 none BARRED", x.count(3), 0);
    }

    private static void promise33keeps() {
        TailPatches x = new TailPatches();
        for (int i = 0; i < 20; i++) {
            x.put(0, i);
        }
        due("33 16 are kept", x.count(5), 16);
        for (int i = 0; i < 16; i++) {
            due("33 kept", x.undo(), 6);
        }
        Calls.refused("33 no more", x, x.undo(), -4, 0);
        Calls.dueFile("33 what could not be undone", x, 1, 3, 2, 1, 0);
        x.put(4, 9);
        x.terms(0, 5);
        x.feed(1, 2, 3, 4, 5);
        x.put(99, 9);
        due("33 the latest that was not REFUSED", x.undo(), 6);
        due("33 TERMS are not undone", x.count(13), 5);
        due("33 the TAPE is not undone", x.count(6), 20);
        x.undo();
        for (int i = 0; i < 40; i++) {
            x.put(0, i);
            x.set(0, i + 1);
            due("33 again and again", x.undo(), 4);
            due("33 again and again", x.byteOf(1, 0), i);
            x.cut(0, 1);
        }
        due("33 still 16", x.count(5), 16);
    }

    private static void promise33run() {
        TailPatches x = new TailPatches();
        Calls.old(x, 1, 2, 3, 4);
        Calls.recipe(x, 0, "take 2 at 2;take 2 at 0");
        x.begin(0);
        x.write(1);
        x.write(3);
        Calls.recipe(x, 1, "say 5;take 3 at 0");
        x.begin(1);
        x.write(2);
        due("33 the second RUN", x.undo(), 13);
        due("33 the second RUN", x.left(), 4);
        due("33 the second RUN", x.undo(), 12);
        due("33 none", x.left(), -1);
        due("33", x.undo(), 3);
        due("33 the first RUN goes on", x.undo(), 13);
        due("33 the first RUN goes on", x.left(), 3);
        Calls.dueFile("33 the first RUN goes on", x, 0, 1, 2, 3, 2);
        due("33 by its own writes", x.write(3), 0);
        Calls.dueFile("33 by its own writes", x, 0, 3, 4, 1, 2);
    }

    private static void promises53and54() {
        TailPatches x = new TailPatches();
        due("54 ahead of any", x.status(), 0);
        x.put(5, 5);
        due("54", x.status(), -1);
        x.feed(0, 0, 0, 0, 0);
        x.end(99);
        x.size(9);
        x.sorted(9, 9);
        x.make(0);
        due("54 make is fine", x.status(), 0);
        x.drop(1);
        due("54 none", x.status(), -2);
        x.flawOf(1);
        x.left();
        due("54 what is told changes nothing", x.status(), -2);
        x.spoil(0, 0, 9);
        x.apply(0);
        due("54 a FLAW", x.status(), -3);
        x.write(1);
        due("54 can't be", x.status(), -4);
        x.end(0);
        Calls.tape(x, new int[65]);
        x.file(0);
        due("54 no room", x.status(), -5);
        x.recipe(0);
        due("54 not read", x.status(), -6);
        for (int i = 0; i < 6; i++) {
            due("53 REFUSED by " + (-1 - i), x.count(7 + i), 1);
        }
        x.undo();
        due("54 undo", x.status(), 0);
        x.terms(9, 9);
        due("54 terms", x.status(), -1);
        due("53 one more", x.count(7), 2);
        Calls.tape(x, 1, 2, 3);
        due("53 the TAPE", x.count(6), 3);
        due("53 to undo", x.count(5), 1);
        for (int i = 0; i < 5; i++) {
            x.terms(i, 6 - i);
            due("53 TERM " + i, x.count(13 + i), 6 - i);
        }
        due("53 others", x.count(18), -1);
        due("53 below", x.count(-1), -1);
        due("53 greatest", x.count(Integer.MAX_VALUE), -1);
        due("53 least", x.count(Integer.MIN_VALUE), -1);
    }

    private static void statusOfEach() {
        TailPatches x = Calls.with(Calls.row(1, 2, 3), Calls.row(2, 3, 4));
        x.terms(9, 0);
        due("54 refused", x.status(), -1);
        int[] fine = new int[20];
        fine[0] = Calls.bring(x, 0, 1, 2) * 100 + x.status();
        x.drop(9);
        fine[1] = x.bar(1, 1) * 100 + x.status();
        x.drop(9);
        fine[2] = x.set(0, 9) * 100 + x.status();
        x.drop(9);
        fine[3] = x.put(0, 9) * 100 + x.status();
        x.drop(9);
        fine[4] = x.cut(0, 1) * 100 + x.status();
        x.drop(9);
        fine[5] = x.move(0, 1, 1) * 100 + x.status();
        x.drop(9);
        fine[6] = x.seal(0) * 100 + x.status();
        x.drop(9);
        fine[7] = x.drop(0) * 100 + x.status();
        x.drop(9);
        fine[8] = x.swap() * 100 + x.status();
        x.drop(9);
        fine[9] = x.advance() * 100 + x.status();
        x.drop(9);
        fine[10] = x.undo() * 100 + x.status();
        int[] want = {200, 100, 200, 400, 300, 200, 100, 200, 300, 0, 1800};
        for (int i = 0; i < want.length; i++) {
            due("54 fine " + i, fine[i], want[i]);
        }
    }

    public static void main(String[] args) {
        promise28();
        promise29();
        promise30();
        promises31and32();
        promise33each();
        promise33keeps();
        promise33run();
        promises53and54();
        statusOfEach();
        Calls.close();
    }
}
