/** Terms, II: each sentence that tells where something ends has a test of its own, in the document's order. */
public final class MakingBoundsTest {
    private static void due(String call, int got, int want) {
        Calls.due(call, got, want);
    }

    // ---- TAILS, SORTED, MATCH ----

    /** "TAILS: of each PLACE of OLD that is not BARRED" */
    private static void barredPlacesHaveNoTail() {
        TailPatches x = Calls.with(Calls.row(1, 2, 3), Calls.row());
        Calls.dueSorted("all have one", x, 0, 1, 2);
        x.bar(1, 1);
        Calls.dueSorted("PLACE 1 has none", x, 0, 2);
        x.bar(0, 1);
        x.bar(2, 1);
        Calls.dueSorted("all BARRED, no TAIL", x);
        due("no row of one BYTE", x.kinds(1), 0);
        due("none stands twice", x.repeated(0), 0);
        due("nowhere", x.repeated(1), -1);
        x.bar(0, 0);
        Calls.dueSorted("PLACE 0 has one again", x, 0);
        Calls.dueSorted("OLD is empty", new TailPatches());
    }

    /** "the BYTES from it on, up to the end of OLD" */
    private static void tailsEndWithOld() {
        TailPatches x = Calls.with(Calls.rising(0, 64), Calls.row());
        for (int place = 0; place < 64; place += 9) {
            due("TAIL of PLACE " + place, x.sorted(place, 1), 64 - place);
        }
        due("of the last PLACE", x.sorted(63, 1), 1);
    }

    /** "or the next PLACE that is BARRED" */
    private static void tailsEndAtABarredPlace() {
        TailPatches x = Calls.with(Calls.row(1, 2, 3, 4, 5), Calls.row());
        x.bar(3, 1);
        int[] sizes = {3, 2, 1, 1};
        for (int k = 0; k < 4; k++) {
            due("TAIL " + k, x.sorted(k, 1), sizes[k]);
        }
        x.bar(3, 0);
        x.bar(5, 1);
        due("one BARRED just behind OLD ends nothing", x.sorted(0, 1), 5);
    }

    /** "SORTED: by the first BYTE in which they differ" */
    private static void sortedByTheFirstOtherByte() {
        Calls.dueSorted("by BYTES 0 .. 255", Calls.with(Calls.row(255, 0, 128, 127), Calls.row()), 1, 3, 2, 0);
        Calls.dueSorted("by the second", Calls.with(Calls.row(5, 9, 5, 3, 5, 200), Calls.row()), 3, 2, 0, 4, 1, 5);
    }

    /** "one that the other one begins with ahead of that" */
    private static void theShorterIsAhead() {
        TailPatches x = Calls.with(Calls.row(0, 0, 0), Calls.row());
        Calls.dueSorted("the shortest first", x, 2, 1, 0);
        due("of the first 0 are ALIKE", x.sorted(0, 2), 0);
        due("of the second all of the first", x.sorted(1, 2), 1);
        due("of the third all of the second", x.sorted(2, 2), 2);
        x = Calls.with(Calls.row(1, 2, 1, 9), Calls.row());
        x.bar(3, 1);
        Calls.dueSorted("one that ends at a BARRED PLACE", x, 2, 0, 1);
        x = Calls.with(Calls.row(1, 9, 1, 2), Calls.row());
        x.bar(1, 1);
        Calls.dueSorted("the lower one ends at a BARRED PLACE", x, 0, 2, 3);
    }

    /** "of like ones the lower PLACE first" */
    private static void ofLikeTailsTheLowerFirst() {
        TailPatches x = Calls.with(Calls.row(5, 9, 5, 9, 5), Calls.row());
        x.bar(1, 1);
        x.bar(3, 1);
        Calls.dueSorted("three like ones", x, 0, 2, 4);
        due("all of its BYTES are ALIKE", x.sorted(1, 2), 1);
        due("all of its BYTES are ALIKE", x.sorted(2, 2), 1);
        due("that is one kind", x.kinds(1), 1);
    }

    /** "MATCH of a SPOT: the longest row of BYTES from it on that a TAIL begins with" */
    private static void matchesAreTheLongest() {
        TailPatches x = Calls.with(Calls.row(1, 2, 9, 1, 2, 3), Calls.row(1, 2, 3, 4));
        Calls.dueMatch("the longer one, though it is higher", x, 0, 3, 3, 1);
        Calls.dueMatch("up to OLD's end", x, 1, 2, 4, 1);
        Calls.fresh(x, 2, 9, 1);
        Calls.dueMatch("up to NEW's end", x, 0, 3, 1, 1);
        x.bar(3, 1);
        Calls.dueMatch("up to a BARRED PLACE", x, 0, 2, 1, 1);
        Calls.dueMatch("from a PLACE that is not BARRED", x, 2, 1, 0, 1);
        int[] all = Calls.rising(0, 64);
        Calls.dueMatch("all 64", Calls.with(all, all), 0, 64, 0, 1);
    }

    /** "the lowest PLACE of which it does" */
    private static void matchesAreTheLowest() {
        TailPatches x = Calls.with(Calls.row(7, 1, 2, 1, 2, 1, 2), Calls.row(1, 2, 8));
        Calls.dueMatch("the lowest of three", x, 0, 2, 1, 3);
        x.bar(1, 1);
        Calls.dueMatch("the lowest of two", x, 0, 2, 3, 2);
    }

    /** "(none, if it has no BYTE)" */
    private static void matchesMayBeNone() {
        TailPatches x = Calls.with(Calls.row(1, 2), Calls.row(3, 2));
        Calls.dueMatch("a BYTE that OLD has not", x, 0, 0, -1, 0);
        x.bar(1, 1);
        Calls.dueMatch("a BYTE that is BARRED", x, 1, 0, -1, 0);
        Calls.old(x);
        Calls.dueMatch("OLD is empty", x, 1, 0, -1, 0);
    }

    // ---- ANCHORS ----

    /** "The first is at SPOT 0, PLACE 0, of length 0." */
    private static void theFirstAnchor() {
        Calls.dueAnchors("nothing there", new TailPatches(), Calls.row(0, 0, 0, 0, 0));
        Calls.dueAnchors("no OLD", Calls.with(Calls.row(), Calls.row(1, 2, 3)), Calls.row(0, 0, 0, 0, 0));
        Calls.dueAnchors("no NEW", Calls.with(Calls.row(1, 2, 3), Calls.row()), Calls.row(0, 0, 0, 0, 0));
        TailPatches x = Calls.with(Calls.row(1, 2), Calls.row(1, 2));
        x.bar(0, 1);
        Calls.dueAnchors("PLACE 0 is BARRED", x, Calls.row(0, 0, 0, 0, 0));
    }

    /** "Then SPOT by SPOT from 0 on" */
    private static void anchorsFromSpot0On() {
        TailPatches x = Calls.with(Calls.row(9, 1, 2, 3), Calls.row(1, 2, 3));
        Calls.dueAnchors("one more at SPOT 0", x, Calls.row(0, 0, 0, 0, 0), Calls.row(0, 1, 3, 0, 0));
        Calls.fresh(x, 8, 8, 1, 2, 3);
        Calls.dueAnchors("one that ends NEW", x, Calls.row(0, 0, 0, 0, 0), Calls.row(2, 1, 3, 0, 0));
        x.cut(2, 3);
        Calls.dueAnchors("none at a SPOT that NEW had", x, Calls.row(0, 0, 0, 0, 0));
    }

    /** "is an ANCHOR, if n is LEAST at least" */
    private static void anchorsHaveLeast() {
        for (int least = 2; least <= 9; least++) {
            for (int n = least - 1; n <= least + 1; n++) {
                TailPatches x = Calls.with(Calls.rising(100, 20), Calls.rising(105, n));
                x.terms(0, least);
                x.terms(1, 0);
                due("LEAST " + least + ", a MATCH of " + n, x.count(0), n >= least ? 2 : 1);
            }
        }
    }

    /** "and more than SLACK and this together": none ALIKE on the latest one's way */
    private static void anchorsAreMoreThanSlack() {
        for (int slack = 0; slack <= 9; slack++) {
            for (int n = Math.max(2, slack); n <= slack + 1; n++) {
                TailPatches x = Calls.with(Calls.rising(100, 20), Calls.rising(105, n));
                x.terms(0, 2);
                x.terms(1, slack);
                due("SLACK " + slack + ", a MATCH of " + n, x.count(0), n > slack ? 2 : 1);
            }
        }
    }

    /** "how many of these n SPOTS are ALIKE with the PLACE that is as far behind": two of four */
    private static void anchorsAreMoreThanWhatIsAlike() {
        TailPatches x = Calls.with(Calls.row(1, 9, 3, 9, 1, 2, 3, 4), Calls.row(1, 2, 3, 4));
        x.terms(1, 2);
        due("four are not more than two and SLACK 2", x.count(0), 1);
        x.terms(1, 1);
        due("four are more than two and SLACK 1", x.count(0), 2);
        TailPatches y = Calls.with(Calls.row(1, 2, 3, 9, 1, 2, 3), Calls.row(1, 2, 3));
        y.terms(1, 0);
        due("all are ALIKE, SLACK 0", y.count(0), 1);
        TailPatches z = Calls.with(Calls.row(5, 6, 7, 8, 1, 2), Calls.row(1, 2, 7));
        z.terms(0, 2);
        due("the SPOT behind them is ALIKE, none of these two", z.count(0), 2);
        Calls.old(z, 5, 6, 3, 8, 9, 9, 1, 2);
        Calls.fresh(z, 5, 6, 0, 1, 2);
        due("SPOTS ahead of them are ALIKE, none of these two", z.count(0), 2);
    }

    /** "the latest ANCHOR's PLACE": not the first one's */
    private static void alikeOnTheLatestOnesWay() {
        TailPatches x = Calls.with(Calls.rising(10, 20), Calls.row(15, 16, 17, 0, 19, 20, 21));
        Calls.dueAnchors("the second one's way goes on", x, Calls.row(0, 0, 0, 0, 0), Calls.row(0, 5, 3, 4, 0));
        Calls.fresh(x, 15, 16, 17, 0, 14, 15, 16);
        Calls.dueAnchors("the first one's way again", x, Calls.row(0, 0, 0, 0, 0), Calls.row(0, 5, 3, 0, 0),
                Calls.row(4, 4, 3, 0, 0));
        Calls.fresh(x, 0, 0, 15, 16, 17, 0, 19, 20, 21);
        Calls.dueAnchors("behind SPOT 0, too: its way goes on", x, Calls.row(0, 0, 0, 0, 0), Calls.row(2, 5, 3, 4, 0));
        Calls.fresh(x, 0, 0, 15, 16, 17, 0, 23, 24, 25);
        Calls.dueAnchors("behind SPOT 0, too: another way", x, Calls.row(0, 0, 0, 0, 0), Calls.row(2, 5, 3, 0, 0),
                Calls.row(6, 13, 3, 0, 0));
    }

    /** "(a PLACE that is not in OLD, that is BARRED: not)" */
    private static void whatIsNotInOldIsNotAlike() {
        TailPatches x = Calls.with(Calls.row(7, 8, 9), Calls.row(1, 1, 1, 7, 8, 9));
        x.terms(1, 2);
        due("the way leads behind OLD", x.count(0), 2);
        Calls.fresh(x, 1, 1, 7, 8, 9);
        due("its first PLACE is OLD's last, unlike", x.count(0), 2);
        Calls.old(x, 7, 8, 7, 8, 9);
        Calls.fresh(x, 7, 8, 9, 1);
        x.terms(1, 1);
        due("two are ALIKE", x.count(0), 1);
        x.bar(0, 1);
        due("one of them is BARRED", x.count(0), 2);
        x.bar(0, 0);
        x.bar(1, 1);
        due("the other one is", x.count(0), 2);
    }

    /** "Behind an ANCHOR it goes on at the SPOT behind its last one" */
    private static void behindAnAnchor() {
        TailPatches x = Calls.with(Calls.row(0, 1, 2, 3, 9, 2, 3, 4, 5), Calls.row(1, 2, 3, 4, 5));
        Calls.dueAnchors("a longer one within it is none", x, Calls.row(0, 0, 0, 0, 0), Calls.row(0, 1, 3, 0, 0));
        Calls.old(x, 0, 1, 2, 3, 9, 4, 5, 6);
        Calls.fresh(x, 1, 2, 3, 4, 5, 6);
        Calls.dueAnchors("the SPOT just behind it", x, Calls.row(0, 0, 0, 0, 0), Calls.row(0, 1, 3, 0, 0),
                Calls.row(3, 5, 3, 0, 0));
    }

    /** "or else at the next SPOT" */
    private static void behindNoAnchor() {
        TailPatches x = Calls.with(Calls.row(0, 1, 2, 3, 9, 2, 3, 4, 5), Calls.row(1, 2, 3, 4, 5));
        x.terms(0, 4);
        Calls.dueAnchors("SPOT 1, as SPOT 0 has none", x, Calls.row(0, 0, 0, 0, 0), Calls.row(1, 5, 4, 0, 0));
    }

    // ---- what they REACH ----

    /** "REACHES FORWARD over f SPOTS and PLACES behind its last ones (the first: from SPOT 0, PLACE 0 on)" */
    private static void forwardBegins() {
        Calls.dueAnchors("the first", Calls.with(Calls.row(1, 2, 3), Calls.row(1, 2, 3)), Calls.row(0, 0, 0, 3, 0));
        TailPatches x = Calls.with(Calls.row(9, 1, 2, 3, 4, 5), Calls.row(1, 2, 3, 0, 5));
        x.terms(3, 0);
        Calls.dueAnchors("another one", x, Calls.row(0, 0, 0, 0, 0), Calls.row(0, 1, 3, 2, 0));
    }

    /** "up to the next ANCHOR's SPOT" */
    private static void forwardEndsAtTheNextAnchor() {
        TailPatches x = Calls.with(Calls.row(1, 2, 3, 4, 9, 9, 3, 4, 5, 6), Calls.row(1, 2, 3, 4, 5, 6));
        x.terms(1, 0);
        Calls.dueAnchors("four are ALIKE, two are reached", x, Calls.row(0, 0, 0, 2, 0), Calls.row(2, 6, 4, 0, 0));
        x = Calls.with(Calls.row(9, 3, 0, 0, 3, 4, 5), Calls.row(1, 3, 4, 5));
        x.terms(2, 3);
        Calls.dueAnchors("the next one's SPOT is ALIKE, too", x, Calls.row(0, 0, 0, 0, 0), Calls.row(1, 4, 3, 0, 0));
    }

    /** "the end of NEW, the end of OLD" */
    private static void forwardEndsWithTheFiles() {
        due("NEW's end", Calls.with(Calls.row(1, 2, 3, 4), Calls.row(1, 2)).anchor(0, 3), 2);
        due("OLD's end", Calls.with(Calls.row(1, 2), Calls.row(1, 2, 3, 4)).anchor(0, 3), 2);
        TailPatches x = Calls.with(Calls.row(8, 1, 2, 3, 4), Calls.row(1, 2, 3, 4, 8));
        due("of another one OLD's end", x.anchor(1, 3), 0);
        int[] all = Calls.rising(0, 64);
        due("both ends", Calls.with(all, all).anchor(0, 3), 64);
        x = Calls.with(Calls.row(9, 1, 2, 3, 4, 5), Calls.row(0, 0, 0, 0, 0, 0, 1, 2, 3, 0, 5));
        x.terms(3, 0);
        due("SPOTS behind OLD's size", x.anchor(1, 3), 2);
    }

    /** "the next BARRED PLACE at most" */
    private static void forwardEndsAtABarredPlace() {
        TailPatches x = Calls.with(Calls.row(1, 2, 3, 4, 5), Calls.row(1, 2, 3, 4, 5));
        for (int place = 4; place >= 0; place--) {
            x.bar(place, 1);
            due("PLACE " + place, x.anchor(0, 3), place);
        }
        TailPatches y = Calls.with(Calls.row(1, 2, 3, 4, 5), Calls.row(1, 2, 3, 4, 5));
        y.bar(1, 1);
        due("PLACE 1 alone", y.anchor(0, 3), 1);
    }

    /** "the f for which the WORTH of them together is the greatest": GAIN for ALIKE ones, LOSS below 0 for others */
    private static void forwardIsTheWorthiest() {
        TailPatches x = Calls.with(Calls.rising(1, 7), Calls.row(1, 2, 0, 0, 5, 6, 7));
        due("1 2 1 0 1 2 3", x.anchor(0, 3), 7);
        x.terms(3, 2);
        due("1 2 0 -2 -1 0 1", x.anchor(0, 3), 2);
        x.terms(2, 2);
        due("2 4 2 0 2 4 6", x.anchor(0, 3), 7);
        x.terms(3, 9);
        x.terms(2, 9);
        due("9 18 9 0 9 18 27", x.anchor(0, 3), 7);
        x.terms(2, 5);
        due("5 10 1 -8 -3 2 7", x.anchor(0, 3), 2);
    }

    /** "(of 0 SPOTS: 0)" */
    private static void forwardMayBeNone() {
        TailPatches x = Calls.with(Calls.row(1, 2, 3), Calls.row(9, 2, 9));
        due("-1 0 -1", x.anchor(0, 3), 0);
        x.terms(2, 2);
        due("-1 1 0", x.anchor(0, 3), 2);
    }

    /** "of like ones the least" */
    private static void ofLikeForwardsTheLeast() {
        TailPatches x = Calls.with(Calls.rising(1, 6), Calls.row(1, 2, 0, 0, 5, 6));
        due("1 2 1 0 1 2", x.anchor(0, 3), 2);
        x.terms(3, 0);
        due("1 2 2 2 3 4", x.anchor(0, 3), 6);
        Calls.fresh(x, 1, 0, 0);
        due("1 1 1", x.anchor(0, 3), 1);
        Calls.fresh(x, 0, 0, 0);
        due("0 0 0", x.anchor(0, 3), 0);
    }

    /** "All but the first REACH BACK over b SPOTS and PLACES just ahead of their first ones, so chosen, too" */
    private static void backIsTheWorthiest() {
        TailPatches x = Calls.with(Calls.row(1, 2, 3, 4, 5, 6, 7, 8), Calls.row(0, 0, 0, 2, 3, 0, 5, 6, 7));
        due("the first has none", x.anchor(0, 4), 0);
        due("-1 0 1 0", x.anchor(1, 4), 3);
        x.terms(3, 2);
        due("-2 -1 0 -2", x.anchor(1, 4), 0);
        x.terms(3, 0);
        due("0 1 2 2", x.anchor(1, 4), 3);
        x.terms(3, 1);
        Calls.fresh(x, 0, 0, 0, 0, 3, 0, 5, 6, 7);
        due("-1 0 -1", x.anchor(1, 4), 0);
        Calls.fresh(x, 0, 0, 0, 0, 0, 4, 5, 6, 7);
        due("an ALIKE one is of the MATCH", x.anchor(1, 2), 4);
    }

    /** "not over a SPOT of the ANCHOR ahead (what that REACHES aside)" */
    private static void backEndsAtTheAnchorAhead() {
        TailPatches x = Calls.with(Calls.row(9, 1, 2, 3, 4, 8, 4, 5, 6, 7), Calls.row(1, 2, 3, 4, 5, 6, 7));
        Calls.dueAnchors("SPOT 3 is ALIKE with PLACE 6, too", x, Calls.row(0, 0, 0, 0, 0), Calls.row(0, 1, 4, 0, 0),
                Calls.row(4, 7, 3, 0, 0));
        Calls.fresh(x, 77, 77, 1, 2, 3, 4, 5, 6, 7);
        Calls.dueAnchors("SPOT 5 is ALIKE with PLACE 6, too", x, Calls.row(0, 0, 0, 0, 0), Calls.row(2, 1, 4, 0, 0),
                Calls.row(6, 7, 3, 0, 0));
        x = Calls.with(Calls.row(9, 1, 2, 3, 4, 8, 8, 4, 30, 5, 6, 7), Calls.row(1, 2, 3, 4, 77, 5, 6, 7));
        x.terms(2, 3);
        Calls.dueAnchors("SPOT 3 is ALIKE with PLACE 7, SPOT 4 with none", x, Calls.row(0, 0, 0, 0, 0),
                Calls.row(0, 1, 4, 0, 0), Calls.row(5, 9, 3, 0, 0));
        TailPatches y = Calls.with(Calls.rising(100, 18), Calls.row(100, 101, 112, 103, 114, 115, 116, 117));
        y.terms(2, 3);
        Calls.dueAnchors("SPOTS 2 and 3 are reached by both", y, Calls.row(0, 0, 0, 2, 0), Calls.row(4, 14, 4, 0, 2));
    }

    /** "a PLACE below 0" */
    private static void backEndsAtPlace0() {
        TailPatches x = Calls.with(Calls.row(4, 0, 5, 6, 7), Calls.row(0, 4, 1, 5, 6, 7));
        x.terms(3, 0);
        Calls.dueAnchors("PLACE 0 is reached", x, Calls.row(0, 0, 0, 0, 0), Calls.row(3, 2, 3, 0, 2));
        Calls.old(x, 0, 5, 6, 7);
        Calls.dueAnchors("there is none ahead of it", x, Calls.row(0, 0, 0, 1, 0), Calls.row(3, 1, 3, 0, 0));
        Calls.old(x, 5, 6, 7);
        due("PLACE 0 is the MATCH's first", x.anchor(1, 4), 0);
    }

    /** "a BARRED PLACE" */
    private static void backEndsAtABarredPlace() {
        TailPatches x = Calls.with(Calls.row(8, 1, 2, 3, 4, 5, 6, 7), Calls.row(9, 9, 8, 77, 2, 0, 4, 5, 6));
        x.terms(3, 0);
        due("none is BARRED", x.anchor(1, 4), 4);
        x.bar(1, 1);
        due("PLACE 1", x.anchor(1, 4), 2);
        x.bar(2, 1);
        due("PLACE 2", x.anchor(1, 4), 0);
        x.bar(2, 0);
        x.bar(3, 1);
        due("PLACE 3", x.anchor(1, 4), 0);
    }

    /** "the first s of these are the first one's, the others the next one's: the s (0 too)" */
    private static void sharesMayBeNoneOrAll() {
        TailPatches x = Calls.with(Calls.rising(100, 18), Calls.row(100, 101, 102, 113, 112, 113, 114, 115));
        x.terms(2, 3);
        // SPOT 3 alone is unlike on the first one's way, so it is not reached; there is nothing to share.
        Calls.dueAnchors("nothing in common", x, Calls.row(0, 0, 0, 3, 0), Calls.row(4, 12, 4, 0, 0));
        TailPatches none = Calls.with(Calls.rising(100, 30),
                Calls.row(100, 101, 122, 123, 104, 125, 126, 127, 128));
        none.terms(0, 4);
        none.terms(2, 3);
        // In common SPOTS 2 .. 4: the first one's are worth -1 -1 3, the next one's 3 3 -1.
        Calls.dueAnchors("s is 0", none, Calls.row(0, 0, 0, 2, 0), Calls.row(5, 25, 4, 0, 3));
        TailPatches all = Calls.with(Calls.rising(100, 22), Calls.row(100, 111, 102, 103, 104, 115, 116, 117, 118));
        all.terms(2, 9);
        // In common SPOTS 1 .. 4: the first one's are worth -1 9 9 9, the next one's 9 -1 -1 -1.
        Calls.dueAnchors("s is all", all, Calls.row(0, 0, 0, 5, 0), Calls.row(5, 15, 4, 0, 0));
    }

    /** "for which the WORTH of all of these is the greatest" */
    private static void sharesAreTheWorthiest() {
        TailPatches x = Calls.with(Calls.rising(100, 18), Calls.row(100, 101, 102, 110, 104, 112, 113, 114));
        x.terms(2, 3);
        // In common SPOTS 3 and 4: the first one's are worth -1 3, the next one's 3 -1: s of 0 is the best.
        Calls.dueAnchors("between", x, Calls.row(0, 0, 0, 3, 0), Calls.row(5, 12, 3, 0, 2));
        TailPatches y = Calls.with(Calls.rising(100, 40), Calls.row(110, 111, 112, 113, 200, 127, 116, 117, 130, 131,
                120, 201, 134, 135, 136, 137));
        y.terms(2, 3);
        // FORWARD SPOTS 4 .. 10, BACK 5 .. 11; in common 5 .. 10, worth -1 3 3 -1 -1 3 and 3 -1 -1 3 3 -1.
        Calls.dueAnchors("s is 3", y, Calls.row(0, 0, 0, 0, 0), Calls.row(0, 10, 4, 4, 0), Calls.row(12, 34, 4, 0, 4));
        y.put(0, 7);
        y.put(0, 8);
        Calls.dueAnchors("two SPOTS on", y, Calls.row(0, 0, 0, 0, 0), Calls.row(2, 10, 4, 4, 0),
                Calls.row(14, 34, 4, 0, 4));
        TailPatches z = Calls.with(Calls.rising(100, 40), Calls.row(120, 101, 102, 103, 124, 105, 126, 127, 128, 129));
        z.terms(0, 4);
        z.terms(2, 9);
        // In common SPOTS 0 .. 5, worth -1 9 9 9 -1 9 and 9 -1 -1 -1 9 -1: s of 4 and of 6 are worth the same.
        Calls.dueAnchors("s is 4", z, Calls.row(0, 0, 0, 4, 0), Calls.row(6, 26, 4, 0, 2));
    }

    /** "of like ones the least" (the shares) */
    private static void ofLikeSharesTheLeast() {
        TailPatches x = Calls.with(Calls.rising(100, 18), Calls.row(100, 101, 112, 103, 114, 115, 116, 117));
        x.terms(2, 3);
        // In common SPOTS 2 and 3: s of 0 is worth 3 - 1, of 1 -1 - 1, of 2 -1 + 3.
        Calls.dueAnchors("0 and 2 are worth the same", x, Calls.row(0, 0, 0, 2, 0), Calls.row(4, 14, 4, 0, 2));
    }

    /** "ANCHORS", "REACHES", shares: as many as there is room for, held against the Model */
    private static void manyAnchors() {
        int[] places = {5, 12, 3, 10, 1, 8, 15, 6, 13, 4, 11, 2, 9, 0, 7, 14, 0};
        int[] fresh = new int[64];
        for (int k = 0; k < 16; k++) {
            fresh[4 * k] = 4 * places[k];
            fresh[4 * k + 1] = 4 * places[k] + 1;
            fresh[4 * k + 2] = (4 * places[k + 1] + 254) % 256;
            fresh[4 * k + 3] = 4 * places[k] + 3;
        }
        int[][] terms = {{2, 1, 1, 0}, {2, 1, 3, 1}, {2, 0, 1, 1}};
        for (int[] term : terms) {
            Model model = new Model();
            model.files[0] = Calls.rising(0, 64);
            model.files[1] = fresh;
            TailPatches x = Calls.with(model.files[0], fresh);
            for (int i = 0; i < 4; i++) {
                model.terms(i, term[i]);
                x.terms(i, term[i]);
            }
            due("17 ANCHORS", x.count(0), 17);
            for (int i : new int[] {0, 15, 16}) {
                for (int what = 0; what < 5; what++) {
                    due("many: anchor(" + i + ", " + what + ")", x.anchor(i, what), model.anchor(i, what));
                }
            }
            for (int spot = 56; spot < 64; spot++) {
                due("many: origin(" + spot + ", 0)", x.origin(spot, 0), model.origin(spot, 0));
            }
            due("many: BYTES", x.make(0), model.make(0));
        }
    }

    // ---- ORIGINS, PARTS, SEEKS ----

    /** "with a DIFFERENCE (NEW's BYTE less OLD's, modulo 256: 0 .. 255)" */
    private static void differencesGoRound() {
        TailPatches x = Calls.with(Calls.row(1, 2, 3, 0, 255, 6, 7, 8, 9), Calls.row(1, 2, 3, 255, 0, 6, 7, 8, 9));
        Calls.duePlaces("all are from their own PLACES", x, 0, 1, 2, 3, 4, 5, 6, 7, 8);
        due("ALIKE", x.origin(2, 1), 0);
        due("255 less 0", x.origin(3, 1), 255);
        due("0 less 255", x.origin(4, 1), 1);
        x.set(2, 2);
        due("2 less 3", x.origin(2, 1), 255);
    }

    /** "each other one is EXTRA, with its BYTE" */
    private static void othersAreExtra() {
        TailPatches x = Calls.with(Calls.row(1, 2, 3), Calls.row(1, 2, 255, 0, 7));
        Calls.duePlaces("behind what is reached", x, 0, 1, -1, -1, -1);
        due("its BYTE", x.origin(2, 1), 255);
        due("its BYTE", x.origin(3, 1), 0);
        due("its BYTE", x.origin(4, 1), 7);
    }

    private static TailPatches made(String recipe) {
        TailPatches x = new TailPatches();
        Calls.old(x, Calls.rising(0, 64));
        due("recipe " + recipe, Calls.recipe(x, 0, recipe) > 0 ? 1 : 0, 1);
        return x;
    }

    /** "each a COPY (SPOTS from PLACES one behind another, as many as go on so)" */
    private static void copiesGoOn() {
        Calls.dueParts("one behind another", made("take 2 at 0;take 1 at 2 by 7;again 1 back 1"), 0,
                Calls.row(0, 3, 0), Calls.row(2, 1, 0));
        Calls.dueParts("the same PLACE", made("take 1 at 5;take 1 at 5"), 0, Calls.row(5, 1, 0), Calls.row(5, 1, 0));
        Calls.dueParts("the PLACE ahead", made("take 1 at 5;take 1 at 4"), 0, Calls.row(5, 1, 0), Calls.row(4, 1, 0));
        Calls.dueParts("one PLACE left out", made("take 1 at 5;take 1 at 7"), 0, Calls.row(5, 1, 0),
                Calls.row(7, 1, 0));
        Calls.dueParts("all", made("take 64 at 0"), 0, Calls.row(0, 64, 0));
        Calls.dueParts("an EXTRA SPOT between", made("take 1 at 5;say 1;take 1 at 6"), 0, Calls.row(5, 1, 1),
                Calls.row(6, 1, 0));
    }

    /** "and the EXTRA SPOTS behind it (0 too) up to the next one from a PLACE" */
    private static void extrasBehindACopy() {
        Calls.dueParts("none", made("take 3 at 1"), 0, Calls.row(1, 3, 0));
        Calls.dueParts("up to the next", made("take 1 at 0;say 5,5;take 1 at 9;say 6"), 0, Calls.row(0, 1, 2),
                Calls.row(9, 1, 1));
        Calls.dueParts("up to the end", made("take 1 at 3;fill 63 with 1"), 0, Calls.row(3, 1, 63));
    }

    /** "if the first SPOT is EXTRA, the first COPY has 0 SPOTS" */
    private static void theFirstCopyMayHaveNone() {
        Calls.dueParts("EXTRA first", made("say 9;take 2 at 4"), 0, Calls.row(-1, 0, 1), Calls.row(4, 2, 0));
        Calls.dueParts("EXTRA alone", made("fill 64 with 9"), 0, Calls.row(-1, 0, 64));
        TailPatches x = new TailPatches();
        x.make(0);
        due("no SPOT, no PART", x.parts(0), 0);
    }

    /** "SEEK .. less the PLACE behind the COPY of the PART ahead (less 0, if there is none, or its COPY has 0 SPOTS)" */
    private static void seeks() {
        // OLD's size, its CHECK in two BYTES or one, NEW's size, its CHECK, how many PARTS: then the PARTS.
        dueSeeks("there is none ahead", "take 1 at 3", 6);
        dueSeeks("behind the COPY ahead", "take 2 at 3;take 1 at 6", 6, 2);
        dueSeeks("behind the COPY ahead and its EXTRA ones", "take 2 at 3;say 1,1;take 1 at 5", 6, 0);
        dueSeeks("its COPY has 0 SPOTS", "say 1;take 1 at 6", 0, 12);
        dueSeeks("two behind that", "say 1;take 2 at 6;take 1 at 0", 0, 12, 15);
    }

    /** "0, if its own COPY has 0" */
    private static void seeksOfNone() {
        dueSeeks("EXTRA alone", "say 1,2", 0);
    }

    /** "a SEEK v as the NUMBER 2 v, below 0 as -2 v - 1" */
    private static void seeksBelow0() {
        dueSeeks("0", "take 1 at 0", 0);
        dueSeeks("1 ahead", "take 1 at 0;take 1 at 0", 0, 1);
        dueSeeks("2 ahead", "take 1 at 1;take 1 at 0", 2, 3);
        dueSeeks("as far as can be, on and back", "take 1 at 63;take 1 at 0", 126, 127);
    }

    private static void dueSeeks(String what, String recipe, int... want) {
        TailPatches x = made(recipe);
        int at = 0;
        for (int number = 0; number < 5; number++) {
            at += x.patch(0, at) < 128 ? 1 : 2;
        }
        due(what + ": PARTS", x.parts(0), want.length);
        for (int i = 0; i < want.length; i++) {
            due(what + ": SEEK " + i, x.patch(0, at + 3 * i), want[i]);
            due(what + ": COPY " + i, x.patch(0, at + 3 * i + 1), x.part(0, i, 1));
            due(what + ": EXTRA " + i, x.patch(0, at + 3 * i + 2), x.part(0, i, 2));
        }
    }

    // ---- PACKED ----

    /** "a NUMBER by sevens of bits, the lowest first, each BYTE but the last with 128 more" */
    private static void numbers() {
        // 3 and the BYTE are OLD's CHECK.
        int[][] rows = {{123}, {124}, {125}, {252}, {253}, {254}};
        int[][] want = {{126}, {127}, {128, 1}, {255, 1}, {128, 2}, {0}};
        for (int i = 0; i < rows.length; i++) {
            TailPatches x = Calls.with(rows[i], Calls.row());
            x.make(0);
            Calls.dueBytes("the CHECK of " + rows[i][0], x, 0, 1, want[i]);
            due("then NEW's size", x.patch(0, 1 + want[i].length), 0);
            due("it can be READ", x.flawOf(0), 0);
        }
    }

    /** The EXTRA BYTES of a PATCH that has nothing else, PACKED. */
    private static void dueRow(String what, int[] row, int... want) {
        TailPatches x = Calls.with(Calls.row(), row);
        int n = x.make(0);
        int first = 3 + (Calls.check(row) < 128 ? 1 : 2) + 1 + 3 + 1;
        due(what + ": the PATCH's size", n, first + want.length + 2);
        Calls.dueBytes(what, x, 0, first, want);
        due(what + ": no FLAW", x.flawOf(0), 0);
    }

    /** "0 the BYTES" */
    private static void way0() {
        dueRow("WAY 0", Calls.row(1, 2, 3), 0, 1, 2, 3);
        dueRow("a 0 between", Calls.row(1, 0, 3), 0, 1, 0, 3);
        dueRow("64", Calls.rising(1, 64), java.util.stream.IntStream.rangeClosed(0, 64).toArray());
    }

    /** "1 till all are told: how many are 0 now (0 too), then, unless all are told, how many behind these are not 0" */
    private static void way1() {
        dueRow("all are 0", Calls.row(0, 0, 0), 1, 3);
        dueRow("64 of 0", new int[64], 1, 64);
        dueRow("0 of 0 at first", Calls.row(7, 8, 0, 0, 0, 0), 1, 0, 2, 7, 8, 4);
        dueRow("the last are not 0", Calls.row(0, 0, 0, 0, 7, 8), 1, 4, 2, 7, 8);
        dueRow("twice", Calls.row(0, 0, 0, 7, 0, 0, 0, 8), 1, 3, 1, 7, 3, 1, 8);
    }

    /** "2 till all are told: how many are the same now, and that BYTE" */
    private static void way2() {
        dueRow("all the same", Calls.row(7, 7, 7, 7), 2, 4, 7);
        dueRow("64 the same", Calls.filled(255, 64), 2, 64, 255);
        dueRow("three rows", Calls.row(7, 7, 7, 0, 0, 0, 8, 8, 8), 2, 3, 7, 3, 0, 3, 8);
        dueRow("one alone at the end", Calls.row(7, 7, 7, 7, 8), 2, 4, 7, 1, 8);
    }

    /** "The WAY by which it is the fewest BYTES; the lowest." */
    private static void theShortestWay() {
        dueRow("0 and 1 in two BYTES", Calls.row(0), 0, 0);
        dueRow("0 and 2 in three BYTES", Calls.row(7, 7), 0, 7, 7);
        dueRow("1 alone in two", Calls.row(0, 0), 1, 2);
        dueRow("1 and 2 in five BYTES", Calls.row(7, 0, 0, 0, 0), 1, 0, 1, 7, 4);
        dueRow("2 alone in three", Calls.row(7, 7, 7), 2, 3, 7);
        dueRow("0 and 1 in five BYTES", Calls.row(7, 0, 0, 8), 0, 7, 0, 0, 8);
        TailPatches x = Calls.with(Calls.row(), Calls.row(1));
        x.make(0);
        due("none: the lowest", x.way(0, 0), 0);
        x = made("take 3 at 0");
        due("DIFFERENCES of 0", x.way(0, 0), 1);
        due("no EXTRA ones", x.way(0, 1), 0);
        x = made("take 3 at 0 by 9");
        due("DIFFERENCES of 9", x.way(0, 0), 2);
    }

    /** "A PATCH: NUMBERS: .. then the CHECK of all that is ahead: by 256, the rest (two BYTES)." */
    private static void aPatch() {
        TailPatches x = new TailPatches();
        x.make(0);
        Calls.duePatch("nothing from nothing", x, 0, 0, 1, 0, 1, 0, 0, 0, 0, 144);
        x = Calls.with(Calls.row(5, 6), Calls.row(5, 7, 9));
        x.make(0);
        // The CHECKS: 8, 24 and 6 are 30; 8, 24 and 7 are 31, 93 and 9 are 102.
        int[] front = {2, 30, 3, 102, 1, 0, 1, 2, 0, 0, 0, 7, 9};
        int check = Calls.check(front);
        int[] whole = java.util.Arrays.copyOf(front, 15);
        whole[13] = check / 256;
        whole[14] = check % 256;
        Calls.duePatch("all its parts", x, 0, whole);
    }

    /** "by 256, the rest": a PATCH whose CHECK is 256 */
    private static void aCheckOf256() {
        int[] front = new int[0];
        for (int i = 0; i < 124 * 124 && Calls.check(front) != 256; i++) {
            int old = i / 124;
            int fresh = i % 124;
            front = Calls.row(1, 3 + old, 1, 3 + fresh, 1, 0, 0, 1, 0, 0, fresh);
        }
        due("there is one", Calls.check(front), 256);
        TailPatches x = Calls.with(Calls.row(front[1] - 3), Calls.row(front[10]));
        int[] whole = java.util.Arrays.copyOf(front, 13);
        whole[11] = 1;
        x.make(0);
        Calls.duePatch("256 by 256, the rest", x, 0, whole);
        due("it has no FLAW", x.flawOf(0), 0);
    }

    public static void main(String[] args) {
        barredPlacesHaveNoTail();
        tailsEndWithOld();
        tailsEndAtABarredPlace();
        sortedByTheFirstOtherByte();
        theShorterIsAhead();
        ofLikeTailsTheLowerFirst();
        matchesAreTheLongest();
        matchesAreTheLowest();
        matchesMayBeNone();
        theFirstAnchor();
        anchorsFromSpot0On();
        anchorsHaveLeast();
        anchorsAreMoreThanSlack();
        anchorsAreMoreThanWhatIsAlike();
        alikeOnTheLatestOnesWay();
        whatIsNotInOldIsNotAlike();
        behindAnAnchor();
        behindNoAnchor();
        forwardBegins();
        forwardEndsAtTheNextAnchor();
        forwardEndsWithTheFiles();
        forwardEndsAtABarredPlace();
        forwardIsTheWorthiest();
        forwardMayBeNone();
        ofLikeForwardsTheLeast();
        backIsTheWorthiest();
        backEndsAtTheAnchorAhead();
        backEndsAtPlace0();
        backEndsAtABarredPlace();
        sharesMayBeNoneOrAll();
        sharesAreTheWorthiest();
        ofLikeSharesTheLeast();
        manyAnchors();
        differencesGoRound();
        othersAreExtra();
        copiesGoOn();
        extrasBehindACopy();
        theFirstCopyMayHaveNone();
        seeks();
        seeksOfNone();
        seeksBelow0();
        numbers();
        way0();
        way1();
        way2();
        theShortestWay();
        aPatch();
        aCheckOf256();
        Calls.close();
    }
}
