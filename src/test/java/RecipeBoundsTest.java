/** Terms, IV: each sentence that tells where something ends has a test of its own, in the document's order. */
public final class RecipeBoundsTest {
    private static void due(String call, int got, int want) {
        Calls.due(call, got, want);
    }

    private static TailPatches withOld(int n) {
        TailPatches x = new TailPatches();
        Calls.old(x, Calls.rising(100, n));
        return x;
    }

    /** It is read, and can be, for an OLD 100 .. 163. */
    private static void fine(String text) {
        TailPatches x = withOld(64);
        int length = Calls.recipe(x, 0, text);
        due("\"" + text + "\" is read", length, x.length(0));
        due("\"" + text + "\": status()", x.status(), 0);
        due("\"" + text + "\": fault()", x.fault(), -1);
        due("\"" + text + "\": stopped()", x.stopped(), -1);
    }

    private static void fault(String text, int at) {
        TailPatches x = withOld(64);
        due("\"" + text + "\" can't be read", Calls.recipe(x, 0, text), -6);
        due("\"" + text + "\": status()", x.status(), -6);
        due("\"" + text + "\": fault()", x.fault(), at);
        due("\"" + text + "\": stopped()", x.stopped(), -1);
        due("\"" + text + "\": nothing is run", x.length(0), -1);
    }

    private static void comesOut(String text, int... want) {
        TailPatches x = withOld(64);
        due("\"" + text + "\" is read", Calls.recipe(x, 0, text), x.length(0));
        Calls.dueOut("\"" + text + "\"", x, 0, want);
    }

    private static void stops(int old, String text, int by, int step) {
        TailPatches x = withOld(old);
        due("\"" + text + "\" of " + old, Calls.recipe(x, 0, text), by);
        due("\"" + text + "\" of " + old + ": fault()", x.fault(), -1);
        due("\"" + text + "\" of " + old + ": stopped()", x.stopped(), step);
        due("\"" + text + "\" of " + old + ": no PATCH", x.length(0), -1);
    }

    // ---- TEXTS and TOKENS ----

    /** "RECIPES are TEXTS on the TAPE": of 400 bytes, too */
    private static void textsOf400() {
        fine("say 1" + " ".repeat(395));
        fine(" ".repeat(395) + "say 1");
        fault(" ".repeat(400), 400);
        fault(" ".repeat(399) + "s", 399);
        StringBuilder text = new StringBuilder("say 1");
        for (int i = 0; i < 63; i++) {
            text.append(",00001");
        }
        due("383 bytes", text.length(), 383);
        fine(text + " ".repeat(17));
        stops(64, text + ",2", -5, 0);
    }

    /** "TOKENS: longest rows of letters a .. z" */
    private static void letters() {
        fault("sayz 1", 0);
        fault("asay 1", 0);
        fault("sa y 1", 0);
        fault("Say 1", 0);
        fault("sAy 1", 0);
        fault("say`1", 3);
        fault("say{1", 3);
        fault("say@1", 3);
        fault("say[1", 3);
        fault("take 1 at 1 byz 1", 12);
        fault("take 1 at 1 b y 1", 12);
        fault("fill 1 withs 1", 7);
        fault("saysay 1", 0);
        String[] words = {"take", "fill", "say", "again", "times"};
        for (String word : words) {
            for (int i = 0; i < word.length(); i++) {
                fault(word.substring(0, i) + "q" + word.substring(i + 1) + " 1", 0);
            }
            fault(word.substring(1) + " 1", 0);
            fault(word.substring(0, word.length() - 1) + " 1", 0);
        }
        fault("take 1 qt 0", 7);
        fault("take 1 aq 0", 7);
        fault("take 1 at 0 qy 0", 12);
        fault("take 1 at 0 bq 0", 12);
        fault("fill 1 qith 0", 7);
        fault("fill 1 witq 0", 7);
        fault("again 1 qack 1", 8);
        fault("again 1 bacq 1", 8);
    }

    /** "of digits" */
    private static void digits() {
        comesOut("say 190", 190);
        comesOut("say 09,90", 9, 90);
        fault("say 1/", 5);
        fault("say 1:", 5);
        fault("say 1 9", 6);
        fault("say /9", 4);
        fault("take1at1by1 1", 12);
    }

    /** "single other bytes" */
    private static void otherBytes() {
        fault("say 1,,1", 6);
        fault("say 1;;say 1", 6);
        fault("say -1", 4);
        fault("say 1.5", 5);
        fault("say 1" + (char) 0, 5);
        fault("say 1" + (char) 255 + (char) 255, 5);
        fault("" + (char) 128, 0);
        fault("times 1((say 1))", 8);
    }

    /** "any blanks (32) between" */
    private static void blanks() {
        comesOut("take2at1by1;say1,2;fill1with3;again1back1;times2(say4)", 102, 103, 1, 2, 3, 3, 4, 4);
        comesOut("  take  2  at  1  by  1  ;  say  1  ,  2  ;  times  2  (  say  4  )  ", 102, 103, 1, 2, 4, 4);
        fault("say\t1", 3);
        fault("say\n1", 3);
        fault("say" + (char) 160 + "1", 3);
        fault("say 1" + (char) 31, 5);
        fault("say 1!", 5);
    }

    // ---- RECIPE, STEPS ----

    /** "RECIPE: STEP {";" STEP}" */
    private static void stepsWithSemicolons() {
        fine("say 1");
        fine("say 1;say 2;say 3");
        fault("", 0);
        fault(";", 0);
        fault(";say 1", 0);
        fault("say 1;", 6);
        fault("say 1;  ", 8);
        fault("say 1;;say 2", 6);
        fault("say 1 say 2", 6);
        fault("say 1,say 2", 6);
    }

    /** "24 STEPS at most in the TEXT" "(FAULT at the 25th's first TOKEN)" */
    private static void stepsHaveAnEnd() {
        String most = Calls.many(24, "say 1", ";");
        fine(most);
        fault(most + ";say 1", 144);
        fault(most + ";  say 1", 146);
        fault(most + ";rubbish", 144);
        fault(most + ";", 144);
        fault(most + " ;  ", 147);
        fault(most + ",", 144);
    }

    /** "those between brackets, too" */
    private static void stepsBetweenBracketsCount() {
        fine("times 1(" + Calls.many(23, "say 1", ";") + ")");
        fault("times 1(" + Calls.many(24, "say 1", ";") + ")", 8 + 6 * 23);
        String twelve = Calls.many(12, "times 1(say 1)", ";");
        fine(twelve);
        fault(twelve + ";say 1", twelve.length() + 1);
        fault(twelve.substring(0, twelve.length() - 1) + ";say 1)", twelve.length());
        fault(Calls.many(23, "say 1", ";") + ";times 1(say 1)", 23 * 6 + 8);
        comesOut(Calls.many(24, "say 1", ";"), Calls.filled(1, 24));
    }

    /** ""take" N "at" P ["by" B]": the first TOKEN that can't go on */
    private static void take() {
        fine("take 1 at 0");
        fine("take 1 at 0 by 0");
        fault("take", 4);
        fault("take at 0", 5);
        fault("take 1", 6);
        fault("take 1 by 0", 7);
        fault("take 1 at", 9);
        fault("take 1 at by", 10);
        fault("take 1 at 0 by", 14);
        fault("take 1 at 0 by by", 15);
        fault("take 1 at 0 by 0 by 0", 17);
        fault("take 1 at 0 with 0", 12);
        fault("take 1,2 at 0", 6);
    }

    /** ""fill" N "with" B" */
    private static void fill() {
        fine("fill 1 with 0");
        fault("fill", 4);
        fault("fill with 0", 5);
        fault("fill 1", 6);
        fault("fill 1 at 0", 7);
        fault("fill 1 with", 11);
        fault("fill 1 with 0,1", 13);
        fault("fill 1 with 0 by 1", 14);
    }

    /** ""say" B {"," B}" */
    private static void say() {
        fine("say 0");
        fine("say 0,1,2");
        fault("say", 3);
        fault("say ,", 4);
        fault("say 0,", 6);
        fault("say 0,;", 6);
        fault("say 0 1", 6);
        fault("say 0 by 1", 6);
    }

    /** ""again" N "back" K" */
    private static void again() {
        fine("say 1;again 1 back 1");
        fault("again", 5);
        fault("again back 1", 6);
        fault("again 1", 7);
        fault("again 1 at 1", 8);
        fault("again 1 back", 12);
        fault("say 1;again 1 back 1 by 1", 21);
    }

    /** ""times" T "(" RECIPE ")"" */
    private static void times() {
        fine("times 1(say 1)");
        fine("times 2(say 1;say 2);say 3");
        fault("times", 5);
        fault("times (say 1)", 6);
        fault("times 2", 7);
        fault("times 2 say 1", 8);
        fault("times 2(", 8);
        fault("times 2()", 8);
        fault("times 2(;say 1)", 8);
        fault("times 2(say 1", 13);
        fault("times 2(say 1;)", 14);
        fault("times 2(say 1))", 14);
        fault("times 2(say 1)say 2", 14);
        fault("times 2(say 1),", 14);
        fault("say 1)", 5);
        fault("(say 1)", 0);
        fault("times 2[say 1]", 7);
    }

    /** "4 brackets within one another at most (FAULT at the 5th)" */
    private static void bracketsHaveAnEnd() {
        String four = Calls.many(4, "times 1(", "");
        fine(four + "say 1))))");
        fine(four + "say 1));times 1(times 1(say 2))))");
        fine(Calls.many(9, "times 1(say 1)", ";"));
        fault(four + "times 1(say 1)))))", 39);
        fault(four + "times 1 (say 1)))))", 40);
        fault(four + "times 1 x", 40);
        fault(four + "say 1;times 1(say 1)))))", 45);
        fault(four + "say 1)))", 40);
        fault(four + "say 1)))))", 41);
        comesOut("times 2(times 1(times 2(times 1(say 1,2))))", 1, 2, 1, 2, 1, 2, 1, 2);
    }

    // ---- NUMBERS ----

    private static void ends(String ahead, int least, int most, String behind) {
        fine(ahead + least + behind);
        fine(ahead + most + behind);
        fault(ahead + (most + 1) + behind, ahead.length());
        fault(ahead + 10 * most + behind, ahead.length());
        fault(ahead + "4294967297" + behind, ahead.length());
        fault(ahead + "99999999999999999999" + behind, ahead.length());
        if (least > 0) {
            fault(ahead + (least - 1) + behind, ahead.length());
            fault(ahead + "000" + behind, ahead.length());
        }
        fine(ahead + "000" + most + behind);
        fault(ahead + "-" + most + behind, ahead.length());
    }

    /** "N .. : NUMBERS 1 .. 64" */
    private static void manyHaveEnds() {
        ends("take ", 1, 64, " at 0");
        ends("fill ", 1, 64, " with 0");
        TailPatches x = withOld(1);
        due("again 63", Calls.recipe(x, 0, "say 1;again 63 back 1"), x.length(0));
        due("again 64 is read", Calls.recipe(x, 0, "say 1;again 64 back 1"), -5);
        due("again 65 is not", Calls.recipe(x, 0, "say 1;again 65 back 1"), -6);
        due("FAULT", x.fault(), 12);
        due("again 0 is not", Calls.recipe(x, 0, "say 1;again 0 back 1"), -6);
        due("FAULT", x.fault(), 12);
    }

    /** "K: NUMBERS 1 .. 64" */
    private static void backHasEnds() {
        comesOut("say 9;fill 62 with 1;again 1 back 63", joined(9, Calls.filled(1, 62), 9));
        stops(1, "fill 64 with 1;again 1 back 64", -5, 1);
        stops(1, "fill 63 with 1;again 1 back 64", -4, 1);
        fault("say 1;again 1 back 65", 19);
        fault("say 1;again 1 back 0", 19);
    }

    private static int[] joined(int first, int[] row, int last) {
        int[] all = new int[row.length + 2];
        all[0] = first;
        System.arraycopy(row, 0, all, 1, row.length);
        all[row.length + 1] = last;
        return all;
    }

    /** "P 0 .. 63" */
    private static void placesHaveEnds() {
        ends("take 1 at ", 0, 63, "");
    }

    /** "B 0 .. 255" */
    private static void bytesHaveEnds() {
        ends("take 1 at 0 by ", 0, 255, "");
        ends("fill 1 with ", 0, 255, "");
        ends("say ", 0, 255, "");
        ends("say 1,", 0, 255, ",2");
    }

    /** "T 1 .. 9" */
    private static void timesHaveEnds() {
        ends("times ", 1, 9, "(say 1)");
        comesOut("times 9(say 1)", Calls.filled(1, 9));
    }

    /** "FAULT: the first TOKEN that can't go on there (the end's: the TEXT's length)" */
    private static void faultAtTheEnd() {
        fault("take 1 at", 9);
        fault("take 1 at   ", 12);
        fault("   ", 3);
        fault("times 1(say 1  ", 15);
        fault("   x y", 3);
        fault("say 1 ;  x y", 9);
        fault("say 256;say 256", 4);
    }

    // ---- run STEP by STEP ----

    /** "take N SPOTS from PLACES from P on with DIFFERENCE B (0 without)" */
    private static void takes() {
        comesOut("take 2 at 3", 103, 104);
        comesOut("take 2 at 3 by 0", 103, 104);
        comesOut("take 2 at 3 by 255", 102, 103);
        comesOut("take 1 at 63 by 93", 0);
        TailPatches x = withOld(64);
        Calls.recipe(x, 0, "take 3 at 1 by 7");
        due("with the same DIFFERENCE", x.way(0, 0), 2);
        Calls.recipe(x, 0, "take 1 at 1 by 7;take 1 at 2");
        Calls.dueListing("none is 0", x, 0, "take 1 at 1 by 7;take 1 at 2");
    }

    /** "fill N EXTRA ones of a BYTE, say EXTRA ones" */
    private static void fillsAndSays() {
        comesOut("fill 3 with 255;say 0,255", 255, 255, 255, 0, 255);
        TailPatches x = withOld(64);
        Calls.recipe(x, 0, "fill 2 with 100;say 101");
        Calls.dueParts("EXTRA, though OLD has such BYTES", x, 0, Calls.row(-1, 0, 3));
    }

    /** "again N, each with the ORIGIN of the one K ahead of it (a PLACE and a DIFFERENCE, or EXTRA and a BYTE)" */
    private static void agains() {
        comesOut("say 1,2;again 5 back 2", 1, 2, 1, 2, 1, 2, 1);
        comesOut("say 1,2,3;again 2 back 3", 1, 2, 3, 1, 2);
        comesOut("say 1;again 63 back 1", Calls.filled(1, 64));
        TailPatches x = withOld(64);
        Calls.recipe(x, 0, "take 1 at 5 by 6;say 7;again 4 back 2");
        Calls.dueParts("from the same PLACE", x, 0, Calls.row(5, 1, 1), Calls.row(5, 1, 1), Calls.row(5, 1, 1));
        Calls.dueListing("with the same DIFFERENCE", x, 0,
                "take 1 at 5 by 6;say 7;take 1 at 5 by 6;say 7;take 1 at 5 by 6;say 7");
    }

    /** "times the RECIPE T times" */
    private static void loops() {
        comesOut("times 1(say 1)", 1);
        comesOut("times 3(say 1;say 2)", 1, 2, 1, 2, 1, 2);
        comesOut("say 9;times 2(times 2(say 1);say 2);say 8", 9, 1, 1, 2, 1, 1, 2, 8);
        comesOut("times 2(say 1;times 2(say 2))", 1, 2, 2, 1, 2, 2);
        comesOut("times 2(times 2(times 2(times 2(say 1))))", Calls.filled(1, 16));
        comesOut("times 8(times 8(say 1))", Calls.filled(1, 64));
        comesOut("say 1;times 6(again 1 back 1)", Calls.filled(1, 7));
    }

    /** "A STEP can't be, if not all its PLACES are in OLD" */
    private static void placesThatAreNotInOld() {
        TailPatches x = withOld(3);
        due("all of them", Calls.recipe(x, 0, "take 3 at 0"), x.length(0));
        due("the last", Calls.recipe(x, 0, "take 1 at 2"), x.length(0));
        stops(3, "take 1 at 3", -4, 0);
        stops(3, "take 2 at 2", -4, 0);
        stops(3, "take 4 at 0", -4, 0);
        stops(3, "take 64 at 63", -4, 0);
        stops(0, "take 1 at 0", -4, 0);
        stops(63, "take 1 at 63", -4, 0);
        stops(63, "take 64 at 0", -4, 0);
    }

    /** "if there are fewer than K SPOTS ahead of it" */
    private static void spotsThatAreNotAhead() {
        stops(1, "again 1 back 1", -4, 0);
        stops(1, "say 1;again 1 back 2", -4, 1);
        stops(1, "say 1;again 9 back 2", -4, 1);
        stops(1, "times 2(again 1 back 1;say 1)", -4, 1);
        TailPatches x = withOld(1);
        due("as many", Calls.recipe(x, 0, "say 1,2;again 1 back 2"), x.length(0));
    }

    /** "there is no room, if there would be more than 64 SPOTS" */
    private static void noRoom() {
        TailPatches x = withOld(64);
        due("64", Calls.recipe(x, 0, "fill 63 with 1;say 2"), x.length(0));
        stops(64, "fill 64 with 1;say 2", -5, 1);
        stops(64, "fill 63 with 1;say 2,3", -5, 1);
        stops(64, "fill 63 with 1;take 2 at 0", -5, 1);
        stops(64, "fill 63 with 1;fill 2 with 0", -5, 1);
        stops(64, "fill 63 with 1;again 2 back 1", -5, 1);
        stops(64, "times 9(times 8(say 1))", -5, 2);
        stops(64, "say 1" + ",1".repeat(64), -5, 0);
    }

    /** "(BARRED ones are not asked.)" */
    private static void barredPlacesAreNotAsked() {
        TailPatches x = withOld(4);
        x.bar(1, 1);
        x.bar(2, 1);
        due("it can be", Calls.recipe(x, 0, "take 4 at 0"), x.length(0));
        Calls.dueOut("all four", x, 0, 100, 101, 102, 103);
    }

    /** "NEW of the PATCH is what comes of these ORIGINS.": its size and CHECK; the FILE NEW is nothing to it. */
    private static void newOfThePatch() {
        TailPatches x = withOld(4);
        Calls.fresh(x, 7, 7);
        Calls.recipe(x, 0, "take 2 at 1;say 5");
        due("its size", x.patch(0, 3), 3);
        int check = Calls.check(101, 102, 5);
        due("its CHECK", check < 128 ? x.patch(0, 4) : x.patch(0, 4) - 128 + 128 * x.patch(0, 5), check);
        Calls.dueFile("NEW stays", x, 1, 7, 7);
        due("no FLAW", x.flawOf(0), 0);
    }

    // ---- LISTINGS ----

    private static void listing(String recipe, String want) {
        TailPatches x = withOld(64);
        due("\"" + recipe + "\" is read", Calls.recipe(x, 0, recipe), x.length(0));
        Calls.dueListing(recipe, x, 0, want);
    }

    /** "a RECIPE, its STEPS with ";" between" */
    private static void listedSteps() {
        listing("say 1", "say 1");
        listing("say 1;take 1 at 2;say 3", "say 1;take 1 at 2;say 3");
        TailPatches x = withOld(64);
        x.make(0);
        due("no SPOT, no sign", x.listed(0), 0);
        due("no sign", x.listing(0, 0), -1);
    }

    /** "of each PART for each longest row of its COPY's SPOTS of the same DIFFERENCE" */
    private static void listedRows() {
        listing("take 4 at 0 by 3", "take 4 at 0 by 3");
        listing("take 2 at 0 by 3;take 2 at 2 by 4", "take 2 at 0 by 3;take 2 at 2 by 4");
        listing("take 2 at 0;take 2 at 2", "take 4 at 0");
        listing("take 2 at 0 by 3;take 2 at 2 by 3", "take 4 at 0 by 3");
        listing("take 1 at 0;take 1 at 1 by 1;take 1 at 2", "take 1 at 0;take 1 at 1 by 1;take 1 at 2");
        listing("take 2 at 0;take 2 at 1", "take 2 at 0;take 2 at 1");
    }

    /** "behind that " by b" unless it is 0" */
    private static void listedDifferences() {
        listing("take 1 at 5 by 0", "take 1 at 5");
        listing("take 1 at 5 by 1", "take 1 at 5 by 1");
        listing("take 1 at 5 by 255", "take 1 at 5 by 255");
    }

    /** "then, if it has EXTRA SPOTS, "say " and their BYTES with "," between" */
    private static void listedExtras() {
        listing("take 1 at 5;say 0;fill 2 with 7", "take 1 at 5;say 0,7,7");
        listing("fill 2 with 0", "say 0,0");
        listing("take 1 at 5;take 1 at 9;say 3", "take 1 at 5;take 1 at 9;say 3");
    }

    /** "Numbers in digits, without zeros ahead." */
    private static void listedNumbers() {
        listing("say 00,09,10,99,100,101,110,199,200,255", "say 0,9,10,99,100,101,110,199,200,255");
        listing("take 09 at 00 by 010", "take 9 at 0 by 10");
        listing("take 10 at 54", "take 10 at 54");
        listing("take 64 at 0 by 100", "take 64 at 0 by 100");
    }

    public static void main(String[] args) {
        textsOf400();
        letters();
        digits();
        otherBytes();
        blanks();
        stepsWithSemicolons();
        stepsHaveAnEnd();
        stepsBetweenBracketsCount();
        take();
        fill();
        say();
        again();
        times();
        bracketsHaveAnEnd();
        manyHaveEnds();
        backHasEnds();
        placesHaveEnds();
        bytesHaveEnds();
        timesHaveEnds();
        faultAtTheEnd();
        takes();
        fillsAndSays();
        agains();
        loops();
        placesThatAreNotInOld();
        spotsThatAreNotAhead();
        noRoom();
        barredPlacesAreNotAsked();
        newOfThePatch();
        listedSteps();
        listedRows();
        listedDifferences();
        listedExtras();
        listedNumbers();
        Calls.close();
    }
}
