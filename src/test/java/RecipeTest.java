/** Promises 12 to 14, 50, 51: RECIPES and LISTINGS. */
public final class RecipeTest {
    private static void due(String call, int got, int want) {
        Calls.due(call, got, want);
    }

    private static void fault(String text, int at) {
        TailPatches x = new TailPatches();
        Calls.old(x, Calls.rising(0, 64));
        Calls.refused("12 " + text, x, Calls.recipe(x, 0, text), -6, 0);
        due("13 " + text, x.fault(), at);
        due("14 " + text, x.stopped(), -1);
        due("12 nothing is run " + text, x.length(0), -1);
        due("12 the tape is empty " + text, x.count(6), 0);
        due("12 nothing to undo but the file " + text, x.count(5), 1);
    }

    private static void stops(int[] old, String text, int by, int step) {
        TailPatches x = new TailPatches();
        Calls.old(x, old);
        Calls.refused("12 " + text, x, Calls.recipe(x, 0, text), by, 0);
        due("14 " + text, x.stopped(), step);
        due("13 " + text, x.fault(), -1);
        due("12 no PATCH " + text, x.length(0), -1);
        due("12 the tape is empty " + text, x.count(6), 0);
    }

    private static void out(int[] old, String text, int... bytes) {
        TailPatches x = new TailPatches();
        Calls.old(x, old);
        due("12 " + text, Calls.recipe(x, 1, text), x.length(1));
        due("12 status " + text, x.status(), 0);
        due("13 " + text, x.fault(), -1);
        due("14 " + text, x.stopped(), -1);
        due("12 apply " + text, x.apply(1), bytes.length);
        Calls.dueFile("12 " + text, x, 2, bytes);
    }

    private static void promise12bytes() {
        TailPatches x = new TailPatches();
        due("12 one BYTE", Calls.recipe(x, 0, "say 5"), 13);
        Calls.duePatch("12 one BYTE", x, 0, 0, 1, 1, 8, 1, 0, 0, 1, 0, 0, 5, 0, 114);
        due("12 undone", x.undo(), 3);
        due("12 none", x.length(0), -1);
        Calls.tape(x, Calls.text("say 5"));
        Calls.refused("12 no slot", x, x.recipe(3), -1, 0);
        Calls.refused("12 below", x, x.recipe(-1), -1, 1);
        due("12 the tape stays for -1 alone", x.count(6), 5);
        due("12 once more", x.recipe(2), 13);
        due("12 then it is empty", x.count(6), 0);
    }

    private static void promise12runs() {
        int[] old = Calls.rising(10, 8);
        out(old, "take 3 at 2", 12, 13, 14);
        out(old, "take 2 at 6 by 250", 10, 11);
        out(old, "take 1 at 0 by 255", 9);
        out(old, "take 1 at 0 by 0", 10);
        out(old, "fill 3 with 7", 7, 7, 7);
        out(old, "say 1,2,255", 1, 2, 255);
        out(old, "say 1,2;again 5 back 2", 1, 2, 1, 2, 1, 2, 1);
        out(old, "take 2 at 0 by 1;say 9;again 3 back 3", 11, 12, 9, 11, 12, 9);
        out(old, "times 3(say 1;times 2(say 2))", 1, 2, 2, 1, 2, 2, 1, 2, 2);
        out(old, "times 1(times 1(times 1(times 2(say 1))))", 1, 1);
        out(old, "times 2(say 1);times 2(say 2);say 3", 1, 1, 2, 2, 3);
        out(old, "times 2(times 2(say 1);say 4;times 2(say 2))", 1, 1, 4, 2, 2, 1, 1, 4, 2, 2);
        out(old, "  take3at2by1 ;say007 , 8 ", 13, 14, 15, 7, 8);
        out(old, "say 00000000000000000000001", 1);
        out(old, "fill 64 with 3", filled(3, 64));
        out(Calls.rising(0, 64), "take 64 at 0", Calls.rising(0, 64));
        out(Calls.rising(0, 64), "take 1 at 63", 63);
        out(old, "say 1;again 63 back 1", filled(1, 64));
        out(old, "fill 32 with 1;again 32 back 32", filled(1, 64));
        TailPatches x = new TailPatches();
        Calls.old(x, old);
        x.bar(3, 1);
        due("12 BARRED ones are not asked", Calls.recipe(x, 0, "take 3 at 2") > 0 ? 1 : 0, 1);
        Calls.recipe(x, 0, "take 2 at 0;take 2 at 2;take 1 at 5;say 1;take 1 at 6;take 1 at 6");
        Calls.dueParts("12 PARTS of ORIGINS", x, 0, Calls.row(0, 4, 0), Calls.row(5, 1, 1), Calls.row(6, 1, 0),
                Calls.row(6, 1, 0));
        Calls.recipe(x, 0, "say 1;take 1 at 0;again 1 back 2");
        Calls.dueParts("12 EXTRA at first", x, 0, Calls.row(-1, 0, 1), Calls.row(0, 1, 1));
    }

    private static int[] filled(int value, int n) {
        int[] row = new int[n];
        java.util.Arrays.fill(row, value);
        return row;
    }

    private static void promise12again() {
        TailPatches x = new TailPatches();
        StringBuilder text = new StringBuilder("say 1");
        for (int i = 1; i < 64; i++) {
            text.append(",").append(i);
        }
        for (int i = 0; i < 10; i++) {
            due("12 one behind another", Calls.recipe(x, 0, text.toString()) > 0 ? 1 : 0, 1);
            x.apply(0);
            due("12 the last BYTE", x.byteOf(2, 63), 63);
            Calls.recipe(x, 0, "times 2(say 1;times 9(again 9 back 2))");
            due("14 stopped within loops", x.stopped(), 3);
        }
    }

    private static void promise12stops() {
        int[] old = {1, 2};
        stops(old, "take 2 at 1", -4, 0);
        stops(old, "take 1 at 2", -4, 0);
        stops(Calls.row(), "take 1 at 0", -4, 0);
        stops(old, "say 1;again 1 back 2", -4, 1);
        stops(old, "again 1 back 1", -4, 0);
        stops(old, "fill 64 with 0;say 1", -5, 1);
        stops(old, "fill 64 with 0;take 1 at 0", -5, 1);
        stops(old, "fill 64 with 0;take 1 at 2", -4, 1);
        stops(old, "fill 63 with 0;again 2 back 1", -5, 1);
        stops(old, "fill 62 with 0;say 1,2,3", -5, 1);
        stops(old, "fill 60 with 0;again 5 back 64", -4, 1);
        stops(old, "times 9(times 8(say 1));take 9 at 9", -5, 2);
        stops(old, "say 1;times 2(times 2(again 1 back 3))", -4, 3);
        stops(old, "times 2(say 1;take 2 at 0);fill 60 with 1;take 1 at 5", -5, 3);
        TailPatches x = new TailPatches();
        Calls.recipe(x, 0, "take");
        due("13 a FAULT", x.fault(), 4);
        x.recipe(5);
        due("13 not of one REFUSED by -1", x.fault(), 4);
        Calls.recipe(x, 0, "again 1 back 1");
        due("13 of the latest", x.fault(), -1);
        due("14 of the latest", x.stopped(), 0);
        x.recipe(5);
        due("14 not of one REFUSED by -1", x.stopped(), 0);
        Calls.recipe(x, 0, "say 1");
        due("14 of the latest", x.stopped(), -1);
    }

    private static void promise13() {
        fault("", 0);
        fault("   ", 3);
        fault("tak 1 at 0", 0);
        fault("takes 1 at 0", 0);
        fault("Take 1 at 0", 0);
        fault("sayz 1", 0);
        fault("asay 1", 0);
        fault("say{ 1", 3);
        fault("say` 1", 3);
        fault("say 1/", 5);
        fault("say 1:", 5);
        fault("say 1" + (char) 233, 5);
        fault("say 1" + (char) 0, 5);
        fault("take", 4);
        fault("take  ", 6);
        fault("take x", 5);
        fault("take 0 at 0", 5);
        fault("take 65 at 0", 5);
        fault("take 4294967297 at 0", 5);
        fault("take 1 to 0", 7);
        fault("take 1 at", 9);
        fault("take 1 at 64", 10);
        fault("take 1 at 0 by", 14);
        fault("take 1 at 0 by 256", 15);
        fault("take 1 at 0 by 1 by 1", 17);
        fault("take 1 at 0 say", 12);
        fault("take 1 at 0 ;", 13);
        fault("take 1 at 0; ;", 13);
        fault("fill 0 with 1", 5);
        fault("fill 65 with 1", 5);
        fault("fill 1 by 1", 7);
        fault("fill 1 with 256", 12);
        fault("say 1,", 6);
        fault("say 1,,2", 6);
        fault("say 1 2", 6);
        fault("say 256", 4);
        fault("say -1", 4);
        fault("say 1\t", 5);
        fault("say 1,256", 6);
        fault("again 0 back 1", 6);
        fault("again 65 back 1", 6);
        fault("again 1 back 0", 13);
        fault("again 1 back 65", 13);
        fault("again 1 at 1", 8);
        fault("times 0(say 1)", 6);
        fault("times 10(say 1)", 6);
        fault("times 2 say 1", 8);
        fault("times 2()", 8);
        fault("times 2(say 1", 13);
        fault("times 2(say 1;)", 14);
        fault("times 2(say 1))", 14);
        fault("say 1)", 5);
        fault("(say 1)", 0);
        fault("times 1(times 1(times 1(times 1(times 1(say 1)))))", 39);
        fault("times 1(times 1(times 1(times 1(times 1)))", 39);
        StringBuilder many = new StringBuilder("say 1");
        for (int i = 1; i < 24; i++) {
            many.append(";say 1");
        }
        out(Calls.row(), many.toString(), filled(1, 24));
        fault(many + ";", many.length() + 1);
        fault(many + "; say 1", many.length() + 2);
        fault(many + "; rubbish", many.length() + 2);
        StringBuilder inner = new StringBuilder("times 1(say 1)");
        for (int i = 2; i < 24; i += 2) {
            inner.append(";times 1(say 1)");
        }
        out(Calls.row(), inner.toString(), filled(1, 12));
        fault(inner + ";say 1", inner.length() + 1);
        fault(inner.substring(0, inner.length() - 1) + ";say 1)", inner.length());
    }

    private static void promises50and51() {
        TailPatches x = new TailPatches();
        Calls.old(x, Calls.rising(0, 64));
        Calls.recipe(x, 0, "take 2 at 9;take 2 at 11 by 4;take 1 at 13;say 255,0,10,9;take 1 at 63 by 255");
        Calls.dueListing("50, 51", x, 0,
                "take 2 at 9;take 2 at 11 by 4;take 1 at 13;say 255,0,10,9;take 1 at 63 by 255");
        Calls.recipe(x, 0, "say 100");
        due("51 asked first", x.listing(0, 0), 's');
        Calls.dueListing("50, 51 EXTRA alone", x, 0, "say 100");
        Calls.recipe(x, 0, "take 64 at 0");
        Calls.dueListing("50, 51 all", x, 0, "take 64 at 0");
        due("51 below", x.listing(0, -1), -1);
        due("50 none", x.listed(1), -1);
        due("51 none", x.listing(1, 0), -1);
        due("50 no slot", x.listed(3), -1);
        due("51 no slot", x.listing(-1, 0), -1);
        // Two PARTS that go on one behind the other stay two STEPS; one of 0 SPOTS is none.
        Calls.old(x, 1, 2);
        Calls.sealed(x, 1, 2, 14, 2, 14, 3, 0, 1, 0, 0, 0, 0, 0, 1, 0, 0, 0, 0, 0);
        Calls.dueListing("50, 51 PART by PART", x, 1, "take 1 at 0;take 1 at 1");
        Calls.old(x);
        Calls.dueListing("50, 51 READ alone", x, 1, "take 1 at 0;take 1 at 1");
        x.spoil(1, 0, 3);
        due("50 a FLAW", x.listed(1), -1);
        due("51 a FLAW", x.listing(1, 0), -1);
        longest();
    }

    private static void longest() {
        TailPatches x = new TailPatches();
        StringBuilder text = new StringBuilder();
        int[] old = Calls.rising(0, 64);
        int[] fresh = new int[64];
        Calls.old(x, old);
        for (int i = 0; i < 64; i++) {
            fresh[i] = (i + (i % 2 == 0 ? 200 : 201)) % 256;
            text.append(i == 0 ? "" : ";").append("take 1 at ").append(i).append(" by ").append(200 + i % 2);
        }
        int at = 0;
        int[] list = new int[90];
        at = number(list, at, 64);
        at = number(list, at, check(old));
        at = number(list, at, 64);
        at = number(list, at, check(fresh));
        list[at++] = 1;
        list[at++] = 0;
        list[at++] = 64;
        list[at++] = 0;
        list[at++] = 0;
        for (int i = 0; i < 64; i++) {
            list[at++] = 200 + i % 2;
        }
        list[at++] = 0;
        Calls.sealed(x, 0, java.util.Arrays.copyOf(list, at));
        due("50 no FLAW", x.flawOf(0), 0);
        due("50 a long one", x.listed(0), text.length());
        due("51 its last", x.listing(0, text.length() - 1), '1');
        due("51 behind", x.listing(0, text.length()), -1);
    }

    private static int number(int[] to, int at, int n) {
        if (n < 128) {
            to[at] = n;
            return at + 1;
        }
        to[at] = 128 + n % 128;
        to[at + 1] = n / 128;
        return at + 2;
    }

    private static int check(int[] row) {
        int check = 1;
        for (int b : row) {
            check = (3 * check + b) % 257;
        }
        return check;
    }

    public static void main(String[] args) {
        promise12bytes();
        promise12runs();
        promise12again();
        promise12stops();
        promise13();
        promises50and51();
        Calls.close();
    }
}
