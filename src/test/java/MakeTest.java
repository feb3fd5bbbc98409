/** Promises 19, 34 to 39, 46, 47, 52 and 0 to 4 of 53: TAILS, MATCHES, ANCHORS, ORIGINS, PATCHES made. */
public final class MakeTest {
    private static void due(String call, int got, int want) {
        Calls.due(call, got, want);
    }

    private static int check(int... row) {
        int check = 1;
        for (int b : row) {
            check = (3 * check + b) % 257;
        }
        return check;
    }

    private static void dueAnchor(String what, TailPatches x, int i, int... want) {
        for (int k = 0; k < 5; k++) {
            due(what + ": anchor(" + i + ", " + k + ")", x.anchor(i, k), want[k]);
        }
    }

    private static void dueOrigins(String what, TailPatches x, int[]... want) {
        due(what + ": NEW", x.size(1), want.length);
        for (int i = 0; i < want.length; i++) {
            due(what + ": origin(" + i + ", 0)", x.origin(i, 0), want[i][0]);
            due(what + ": origin(" + i + ", 1)", x.origin(i, 1), want[i][1]);
        }
    }

    private static void dueSorted(String what, TailPatches x, int[]... want) {
        for (int k = 0; k < want.length; k++) {
            for (int w = 0; w < 3; w++) {
                due(what + ": sorted(" + k + ", " + w + ")", x.sorted(k, w), want[k][w]);
            }
        }
        due(what + ": behind the last", x.sorted(want.length, 0), -1);
    }

    private static void promise34() {
        TailPatches x = Calls.with(Calls.text("banana"), Calls.row());
        dueSorted("34", x, Calls.row(5, 1, 0), Calls.row(3, 3, 1), Calls.row(1, 5, 3), Calls.row(0, 6, 0),
                Calls.row(4, 2, 0), Calls.row(2, 4, 2));
        due("34 below", x.sorted(-1, 0), -1);
        due("34 what", x.sorted(0, 3), -1);
        due("34 what below", x.sorted(0, -1), -1);
        x.bar(3, 1);
        dueSorted("34 BARRED", x, Calls.row(5, 1, 0), Calls.row(1, 2, 1), Calls.row(0, 3, 0), Calls.row(2, 1, 0),
                Calls.row(4, 2, 1));
        x = Calls.with(Calls.row(7, 8, 7, 255, 0), Calls.row());
        x.bar(1, 1);
        x.bar(3, 1);
        dueSorted("34 like ones", x, Calls.row(4, 1, 0), Calls.row(0, 1, 0), Calls.row(2, 1, 1));
        int[] same = new int[64];
        x = Calls.with(same, same);
        for (int k = 0; k < 64; k++) {
            due("34 all the same", x.sorted(k, 0), 63 - k);
            due("34 all the same", x.sorted(k, 2), k);
        }
        x = new TailPatches();
        due("34 none", x.sorted(0, 0), -1);
    }

    private static void promise35() {
        TailPatches x = Calls.with(Calls.text("banana"), Calls.row());
        int[] kinds = {3, 3, 3, 3, 2, 1, 0};
        for (int n = 1; n <= 7; n++) {
            due("35 " + n, x.kinds(n), kinds[n - 1]);
        }
        due("35 the most", x.kinds(64), 0);
        due("35 too many", x.kinds(65), -1);
        due("35 none", x.kinds(0), -1);
        due("35 below", x.kinds(-1), -1);
        x.bar(3, 1);
        due("35 BARRED 1", x.kinds(1), 3);
        due("35 BARRED 2", x.kinds(2), 3);
        due("35 BARRED 3", x.kinds(3), 1);
        x = Calls.with(Calls.rising(0, 64), Calls.row());
        due("35 all", x.kinds(64), 1);
        due("35 all but one", x.kinds(63), 2);
    }

    private static void promise36() {
        TailPatches x = Calls.with(Calls.text("banana"), Calls.row());
        due("36 how many", x.repeated(0), 3);
        due("36 where", x.repeated(1), 1);
        due("36 what", x.repeated(2), -1);
        due("36 below", x.repeated(-1), -1);
        Calls.old(x, Calls.text("abc"));
        due("36 none", x.repeated(0), 0);
        due("36 nowhere", x.repeated(1), -1);
        Calls.old(x, Calls.text("zcdxabycdwab"));
        due("36 two such rows", x.repeated(0), 2);
        due("36 the lowest of both", x.repeated(1), 1);
        Calls.old(x, Calls.text("ababab"));
        due("36 overlapping", x.repeated(0), 4);
        due("36 overlapping", x.repeated(1), 0);
        x.bar(2, 1);
        due("36 BARRED", x.repeated(0), 2);
        due("36 BARRED", x.repeated(1), 0);
    }

    private static void promise37() {
        TailPatches x = Calls.with(Calls.text("banana"), Calls.text("nabanx"));
        int[][] want = {{2, 2, 2}, {1, 1, 3}, {3, 0, 1}, {2, 1, 2}, {1, 2, 2}, {0, -1, 0}};
        for (int spot = 0; spot < 6; spot++) {
            for (int what = 0; what < 3; what++) {
                due("37 match(" + spot + ", " + what + ")", x.match(spot, what), want[spot][what]);
            }
        }
        due("37 no spot", x.match(6, 0), -1);
        due("37 below", x.match(-1, 0), -1);
        due("37 what", x.match(0, 3), -1);
        due("37 what below", x.match(0, -1), -1);
        x.bar(1, 1);
        due("37 BARRED", x.match(2, 0), 1);
        due("37 BARRED", x.match(3, 1), 3);
        due("37 BARRED", x.match(3, 2), 1);
        x.bar(0, 1);
        due("37 none", x.match(2, 0), 0);
        due("37 nowhere", x.match(2, 1), -1);
        Calls.fresh(x, Calls.text("na"));
        due("37 up to NEW's end", x.match(0, 0), 2);
        Calls.fresh(x, Calls.text("nanana"));
        due("37 up to OLD's end", x.match(0, 0), 4);
    }

    /** OLD is 100 .. 117; the gap ahead of the second ANCHOR is worth something both ways. */
    private static TailPatches shared() {
        return Calls.with(Calls.rising(100, 18), Calls.row(100, 101, 112, 103, 114, 115, 116, 117));
    }

    private static void promise38() {
        TailPatches x = shared();
        due("38 two", x.count(0), 2);
        dueAnchor("38 nothing shared", x, 0, 0, 0, 0, 2, 0);
        dueAnchor("38 nothing shared", x, 1, 4, 14, 4, 0, 0);
        x.terms(2, 3);
        dueAnchor("38 of like shares the least", x, 0, 0, 0, 0, 2, 0);
        dueAnchor("38 of like shares the least", x, 1, 4, 14, 4, 0, 2);
        due("38 behind the last", x.anchor(2, 0), -1);
        due("38 below", x.anchor(-1, 0), -1);
        due("38 what", x.anchor(0, 5), -1);
        due("38 what below", x.anchor(0, -1), -1);
        Calls.fresh(x, 100, 101, 112, 103, 104, 113, 114, 115, 116, 117);
        x.terms(2, 1);
        dueAnchor("38 the first reaches over one that is unlike", x, 0, 0, 0, 0, 5, 0);
        dueAnchor("38 and the next one not back", x, 1, 5, 13, 5, 0, 0);
        x = Calls.with(Calls.rising(100, 18), Calls.row(100, 101, 102, 110, 104, 112, 113, 114));
        x.terms(2, 3);
        // FORWARD 5 (spot 3 unlike), BACK 2 (spot 4 unlike): in common 3 and 4; s of 0: 3 - 1, of 2: -1 + 3.
        dueAnchor("38 shared", x, 0, 0, 0, 0, 3, 0);
        dueAnchor("38 shared", x, 1, 5, 12, 3, 0, 2);
        x = Calls.with(Calls.rising(100, 22), Calls.row(100, 111, 102, 103, 104, 115, 116, 117, 118));
        x.terms(2, 9);
        // BACK 4 (spot 1 alike), FORWARD 5: in common 1 .. 4; all four given: -1 + 9 + 9 + 9.
        dueAnchor("38 all given", x, 0, 0, 0, 0, 5, 0);
        dueAnchor("38 all given", x, 1, 5, 15, 4, 0, 0);
    }

    private static void promise38later() {
        TailPatches x = Calls.with(Calls.rising(100, 40), Calls.row(110, 111, 112, 113, 200, 127, 116, 117, 130, 131,
                120, 201, 134, 135, 136, 137));
        x.terms(2, 3);
        // FORWARD 4 .. 10, BACK 5 .. 11: of 5 .. 10 the first three are worth more here, the others there.
        dueAnchor("38 the first", x, 0, 0, 0, 0, 0, 0);
        dueAnchor("38 between later ones", x, 1, 0, 10, 4, 4, 0);
        dueAnchor("38 between later ones", x, 2, 12, 34, 4, 0, 4);
        due("39 the last that is the first one's", x.origin(7, 0), 17);
        due("39 the first that is the next one's", x.origin(8, 0), 30);
        x.terms(2, 1);
        dueAnchor("38 not worth it", x, 1, 0, 10, 4, 0, 0);
        dueAnchor("38 not worth it", x, 2, 12, 34, 4, 0, 0);
        Calls.fresh(x, 110, 111, 112, 113, 126, 115, 116, 200, 130, 131, 132, 133);
        x.terms(3, 0);
        // In common 4 .. 6, of which one is the next one's way, two the first one's: worth 1 or 2.
        dueAnchor("38 worth one more", x, 1, 0, 10, 4, 3, 0);
        dueAnchor("38 worth one more", x, 2, 8, 30, 4, 0, 1);
    }

    private static void promise38terms() {
        TailPatches x = Calls.with(Calls.rising(1, 9), Calls.row(5, 6, 7));
        due("38 as long as LEAST", x.count(0), 2);
        dueAnchor("38 as long as LEAST", x, 1, 0, 4, 3, 0, 0);
        x.terms(0, 4);
        due("38 shorter than LEAST", x.count(0), 1);
        x.terms(0, 3);
        x.terms(1, 3);
        due("38 not more than SLACK", x.count(0), 1);
        x.terms(1, 2);
        due("38 more than SLACK", x.count(0), 2);
        x = Calls.with(Calls.row(5, 6, 9, 5, 6, 7), Calls.row(5, 6, 7));
        due("38 two are ALIKE on the latest one's way", x.count(0), 1);
        x.terms(1, 0);
        dueAnchor("38 with less SLACK", x, 1, 0, 3, 3, 0, 0);
        x.terms(1, 1);
        x.bar(1, 1);
        dueAnchor("38 one is BARRED", x, 1, 0, 3, 3, 0, 0);
        x = Calls.with(Calls.row(0, 1, 2, 3, 9, 2, 3, 4, 5), Calls.row(1, 2, 3, 4, 5));
        due("38 it goes on behind an ANCHOR", x.count(0), 2);
        dueAnchor("38 it goes on behind an ANCHOR", x, 1, 0, 1, 3, 0, 0);
        x = Calls.with(Calls.row(9, 1, 2, 3, 4, 8, 4, 5, 6, 7), Calls.row(1, 2, 3, 4, 5, 6, 7));
        dueAnchor("38 not BACK over the one ahead", x, 1, 0, 1, 4, 0, 0);
        dueAnchor("38 not BACK over the one ahead", x, 2, 4, 7, 3, 0, 0);
        x = Calls.with(Calls.row(5, 9, 5, 6, 7, 8), Calls.row(1, 5, 6, 7, 8));
        dueAnchor("38 of like MATCHES the lowest PLACE", x, 1, 1, 2, 4, 0, 0);
    }

    private static void promise38reach() {
        TailPatches x = Calls.with(Calls.row(8, 1, 2, 3, 4, 5, 6, 7), Calls.row(1, 2, 3, 0, 5, 6, 9, 9, 9));
        // Behind the ANCHOR: unlike, alike, alike, unlike, then OLD ends.
        x.terms(0, 3);
        dueAnchor("38 FORWARD over one that is unlike", x, 1, 0, 1, 3, 3, 0);
        x.terms(3, 2);
        dueAnchor("38 FORWARD not for a sum of 0", x, 1, 0, 1, 3, 0, 0);
        x.terms(3, 0);
        dueAnchor("38 of like ones the least", x, 1, 0, 1, 3, 3, 0);
        x.bar(6, 1);
        dueAnchor("38 up to the next BARRED one", x, 1, 0, 1, 3, 2, 0);
        x.bar(4, 1);
        dueAnchor("38 up to the next BARRED one", x, 1, 0, 1, 3, 0, 0);
        x = Calls.with(Calls.row(1, 2, 3, 4, 5, 6, 7, 8), Calls.row(9, 9, 9, 2, 3, 9, 5, 6, 7));
        dueAnchor("38 BACK over one that is unlike", x, 1, 6, 4, 3, 0, 3);
        x.bar(2, 1);
        dueAnchor("38 BACK not over a BARRED one", x, 1, 6, 4, 3, 0, 0);
        x.bar(2, 0);
        x.terms(3, 0);
        dueAnchor("38 BACK, of like ones the least", x, 1, 6, 4, 3, 0, 3);
        Calls.old(x, 2, 3, 4, 5, 6, 7, 8);
        dueAnchor("38 BACK not below PLACE 0", x, 1, 6, 3, 3, 0, 3);
        Calls.old(x, 3, 4, 5, 6, 7, 8);
        dueAnchor("38 BACK not below PLACE 0", x, 1, 6, 2, 3, 0, 2);
        x = Calls.with(Calls.row(1, 2, 3), Calls.row(1, 2, 3));
        dueAnchor("38 the first alone", x, 0, 0, 0, 0, 3, 0);
        x.bar(0, 1);
        due("38 the first can't begin", x.anchor(0, 3), 0);
        x = new TailPatches();
        dueAnchor("38 nothing there", x, 0, 0, 0, 0, 0, 0);
    }

    private static void promise39() {
        TailPatches x = shared();
        dueOrigins("39", x, Calls.row(0, 0), Calls.row(1, 0), Calls.row(-1, 112), Calls.row(-1, 103),
                Calls.row(14, 0), Calls.row(15, 0), Calls.row(16, 0), Calls.row(17, 0));
        x.terms(2, 3);
        dueOrigins("39 shared", x, Calls.row(0, 0), Calls.row(1, 0), Calls.row(12, 0), Calls.row(13, 246),
                Calls.row(14, 0), Calls.row(15, 0), Calls.row(16, 0), Calls.row(17, 0));
        due("39 no spot", x.origin(8, 0), -1);
        due("39 below", x.origin(-1, 1), -1);
        due("39 what", x.origin(0, 2), -1);
        due("39 what below", x.origin(0, -1), -1);
        due("39 DIFFERENCE up", Calls.with(Calls.row(1, 2, 3, 4, 5, 6), Calls.row(1, 2, 13, 4, 5, 6)).origin(2, 1), 10);
    }

    private static void promise19() {
        TailPatches x = shared();
        int c = check(Calls.rising(100, 18));
        int d = check(100, 101, 112, 103, 114, 115, 116, 117);
        due("19 the CHECKS are of two BYTES and one, as thought", (c > 127 ? 2 : 1) * 10 + (d > 127 ? 2 : 1), 21);
        x.terms(2, 3);
        due("19 bytes", x.make(2), 20);
        int[] front = {18, 128 + c % 128, c / 128, 8, d, 2, 0, 2, 0, 20, 6, 0, 1, 3, 1, 246, 4, 0};
        int e = check(front);
        int[] whole = java.util.Arrays.copyOf(front, 20);
        whole[18] = e / 256;
        whole[19] = e % 256;
        Calls.duePatch("19", x, 2, whole);
        due("19 PARTS now", x.count(1), 2);
        due("19 BYTES now", x.count(2), 20);
        due("19 no FLAW", x.flawOf(2), 0);
        due("19 undone", x.undo(), 8);
        due("19 none", x.length(2), -1);
        Calls.refused("19 no slot", x, x.make(3), -1, 0);
        Calls.refused("19 below", x, x.make(-1), -1, 1);
        x = new TailPatches();
        due("19 nothing from nothing", x.make(0), 9);
        Calls.duePatch("19 nothing from nothing", x, 0, 0, 1, 0, 1, 0, 0, 0, 0, 144);
    }

    /** The WAYS, each the shortest once, and of like ones the lowest. */
    private static void promise19ways() {
        int[][] rows = {{0, 0, 0, 0, 0}, {7, 7, 7, 7, 7}, {1, 2, 3}, {7, 7}, {0}, {0, 0, 0, 0, 7, 7},
            {1, 0, 0, 0, 0, 2}, {7, 7, 7, 0}, {0, 0, 0}, {0, 0}};
        int[] ways = {1, 2, 0, 0, 0, 1, 0, 0, 1, 1};
        int[] sizes = {2, 3, 4, 3, 2, 5, 7, 5, 2, 2};
        for (int i = 0; i < rows.length; i++) {
            TailPatches x = Calls.with(Calls.row(), rows[i]);
            int bytes = x.make(0);
            int head = 3 + (check() > 127 ? 2 : 1) + (check(rows[i]) > 127 ? 2 : 1);
            due("19 way of row " + i, x.way(0, 1), ways[i]);
            due("19 size of row " + i, bytes - head - 3 - 1 - 2, sizes[i]);
            due("19 way of none", x.way(0, 0), 0);
        }
        TailPatches x = new TailPatches();
        Calls.old(x, Calls.rising(0, 64));
        Calls.recipe(x, 0, "take 9 at 3 by 4");
        due("19 DIFFERENCES all the same", x.way(0, 0), 2);
        Calls.recipe(x, 0, "take 64 at 0");
        due("19 DIFFERENCES all 0", x.way(0, 0), 1);
    }

    private static void dearest() {
        TailPatches x = new TailPatches();
        Calls.old(x, Calls.rising(0, 64));
        StringBuilder text = new StringBuilder();
        for (int i = 0; i < 16; i++) {
            text.append(i == 0 ? "" : ";").append("take 1 at ").append(63 - 3 * i).append(" by ").append(i * 11 + 1);
        }
        text.append(";again 48 back 16");
        due("the most PARTS", Calls.recipe(x, 1, text.toString()) > 200 ? 1 : 0, 1);
        due("the most PARTS", x.parts(1), 64);
        due("the most PARTS: no FLAW", x.flawOf(1), 0);
        due("the most PARTS: apply", x.apply(1), 64);
    }

    private static void promise46() {
        due("46 nothing", new TailPatches().cheapest(0), 0);
        due("46 EXTRA alone", Calls.with(Calls.row(), Calls.row(1, 2, 3)).cheapest(0), 6);
        due("46 one is cheaper EXTRA", Calls.with(Calls.row(1), Calls.row(1)).cheapest(0), 2);
        due("46 two from PLACES", Calls.with(Calls.row(1, 2), Calls.row(1, 2)).cheapest(0), 3);
        TailPatches x = Calls.with(Calls.row(1, 2, 3, 4), Calls.row(1, 9, 3, 4));
        due("46 one changed", x.cheapest(0), 4);
        due("46 of what would be made", x.cheapest(1), 4);
        x.bar(1, 1);
        due("46 BARRED", x.cheapest(0), 7);
        x = shared();
        // All from PLACE 10 on, three of them changed.
        due("46", x.cheapest(0), 6);
        due("46 made", x.cheapest(1), 10);
        x.terms(2, 3);
        due("46 made", x.cheapest(1), 7);
        due("46 what", x.cheapest(2), -1);
        due("46 below", x.cheapest(-1), -1);
        due("46 all unlike", Calls.with(new int[64], Calls.rising(1, 64)).cheapest(0), 67);
    }

    private static void promise47() {
        due("47", Calls.with(Calls.text("kitten"), Calls.text("sitting")).apart(), 3);
        due("47 nothing", new TailPatches().apart(), 0);
        due("47 put in", Calls.with(Calls.row(), Calls.rising(0, 64)).apart(), 64);
        due("47 taken out", Calls.with(Calls.text("abc"), Calls.row()).apart(), 3);
        due("47 the same", Calls.with(Calls.rising(0, 64), Calls.rising(0, 64)).apart(), 0);
        due("47 changed", Calls.with(Calls.rising(0, 64), Calls.rising(100, 64)).apart(), 64);
        due("47 moved by one", Calls.with(Calls.rising(0, 64), Calls.rising(1, 64)).apart(), 2);
        due("47 exchanged", Calls.with(Calls.text("ab"), Calls.text("ba")).apart(), 2);
        TailPatches x = Calls.with(Calls.text("abc"), Calls.text("abc"));
        x.bar(1, 1);
        due("47 BARRED is nothing to it", x.apart(), 0);
    }

    private static void promise52() {
        TailPatches x = Calls.with(Calls.rising(10, 10), Calls.row(15, 16, 7, 8, 9));
        x.terms(0, 9);
        due("52 the shortest", x.best(0), 2);
        int bytes = x.best(1);
        due("52 as a PATCH with another LEAST is one more", x.make(0), bytes + 1);
        x.terms(0, 2);
        due("52 as the PATCH with it", x.make(0), bytes);
        Calls.fresh(x, 7, 15, 16, 8);
        due("52 short ones cost more than they bring", x.best(0), 3);
        Calls.fresh(x, 15, 16, 17, 18);
        due("52 of like ones the lowest", x.best(0), 2);
        int[] sevens = new int[20];
        java.util.Arrays.fill(sevens, 7);
        Calls.old(x, 1, 1, 1, 1, 1, 1, 1, 1, 7, 7, 7, 7, 7, 7, 7, 7);
        Calls.fresh(x, sevens);
        due("52 the highest", x.best(0), 9);
        due("52 what", x.best(2), -1);
        due("52 below", x.best(-1), -1);
        due("52 LEAST stays", x.count(13), 2);
        due("52 the PATCH stays", x.length(0), bytes);
    }

    private static void promise53made() {
        TailPatches x = shared();
        due("53 ANCHORS", x.count(0), 2);
        due("53 PARTS", x.count(1), 2);
        due("53 BYTES", x.count(2), x.make(0));
        due("53 PLACES BARRED", x.count(3), 0);
        due("53 ALIKE in number", x.count(4), 3);
        x.bar(0, 1);
        due("53 ALIKE in number, BARRED too", x.count(4), 3);
        due("53 PLACES BARRED", x.count(3), 1);
        Calls.fresh(x, Calls.rising(100, 20));
        due("53 ALIKE up to the end of OLD", x.count(4), 18);
    }

    public static void main(String[] args) {
        promise34();
        promise35();
        promise36();
        promise37();
        promise38();
        promise38later();
        promise38terms();
        promise38reach();
        promise39();
        promise19();
        promise19ways();
        dearest();
        promise46();
        promise47();
        promise52();
        promise53made();
        Calls.close();
    }
}
