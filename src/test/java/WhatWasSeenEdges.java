/** Promises 22 to 25, sentence by sentence, where one names a bound: at it, just inside, just outside; what is refused. */
public final class WhatWasSeenEdges extends Checks {
    public static void main(String[] args) {
        runAll(WhatWasSeenEdges.class);
    }

    private static NightLots withSeen(int filled) {
        NightLots lots = busy();
        lots.forget();
        for (int i = 0; i < filled; i++) {
            lots.seen(i, i % 3, i % 2);
        }
        return lots;
    }

    // ---- promise 22: seen

    static void promise22_nightsAreFrom0To20() {
        bounds(Checks::busy, "seen(?, 0, 0)", 0, 20, (lots, n) -> lots.seen(n, 0, 0));
        for (int n : new int[] {0, 1, 19, 20}) {
            due("seen(" + n + ", 0, 0)", new NightLots().seen(n, 0, 0), 1);
        }
    }

    static void promise22_hoursAreSuchAsThereAre() {
        bounds(Checks::busy, "seen(0, ?, 1)", 0, 2, (lots, k) -> lots.seen(0, k, 1));
        bounds(Checks::two, "seen(0, ?, 1)", 0, 1, (lots, k) -> lots.seen(0, k, 1));
        bounds(Checks::seven, "seen(20, ?, 0)", 0, 6, (lots, k) -> lots.seen(20, k, 0));
    }

    static void promise22_isIs0Or1() {
        bounds(Checks::busy, "seen(0, 0, ?)", 0, 1, (lots, is) -> lots.seen(0, 0, is));
    }

    static void promise22_sixAtMost() {
        NightLots lots = new NightLots();
        for (int i = 1; i <= 6; i++) {
            due("seen(0, 0, 0)", lots.seen(0, 0, 0), i);
            due("count(4)", lots.count(4), i);
        }
        due("seen(0, 0, 0), the seventh", lots.seen(0, 0, 0), FULL);
        due("seen(20, 4, 1), the seventh", lots.seen(20, 4, 1), FULL);
        due("count(4)", lots.count(4), 6);
    }

    static void promise22_whenFullNothingChanges() {
        refused(() -> withSeen(6), "seen(0, 0, 0)", FULL, lots -> lots.seen(0, 0, 0));
        refused(() -> withSeen(6), "seen(20, 2, 1)", FULL, lots -> lots.seen(20, 2, 1));
        due("seen(0, 0, 0), the sixth", withSeen(5).seen(0, 0, 0), 6);
    }

    static void promise22_badGoesAheadOfFull() {
        refused(() -> withSeen(6), "seen(-1, 0, 0)", BAD, lots -> lots.seen(-1, 0, 0));
        refused(() -> withSeen(6), "seen(21, 0, 0)", BAD, lots -> lots.seen(21, 0, 0));
        refused(() -> withSeen(6), "seen(0, -1, 0)", BAD, lots -> lots.seen(0, -1, 0));
        refused(() -> withSeen(6), "seen(0, 3, 0)", BAD, lots -> lots.seen(0, 3, 0));
        refused(() -> withSeen(6), "seen(0, 0, -1)", BAD, lots -> lots.seen(0, 0, -1));
        refused(() -> withSeen(6), "seen(0, 0, 2)", BAD, lots -> lots.seen(0, 0, 2));
    }

    static void promise22_allSixAreLookedAt() {
        for (int wrong = 0; wrong <= 6; wrong++) {
            NightLots lots = atNight(0);
            for (int i = 0; i < 6; i++) {
                lots.seen(i, 0, i == wrong ? 1 : 0);
            }
            due("kinds(0), a gap being seen as number " + wrong, lots.kinds(0), wrong == 6 ? 15 : 0);
        }
    }

    static void promise22_seenTwiceItCountsTwice() {
        NightLots lots = new NightLots();
        due("seen(0, 1, 1)", lots.seen(0, 1, 1), 1);
        due("seen(0, 1, 1) again", lots.seen(0, 1, 1), 2);
        due("kinds(1)", lots.kinds(1), 2);
        due("forget()", lots.forget(), 2);
    }

    static void promise22_otherThanItIsItMayBeSeen() {
        NightLots lots = new NightLots();
        due("gaps()", lots.gaps(), 2);
        due("seen(0, 0, 1)", lots.seen(0, 0, 1), 1);
        due("seen(0, 0, 0)", lots.seen(0, 0, 0), 2);
        due("kinds(0), at once a gap and none", lots.kinds(0), 0);
    }

    static void promise22_nothingElseChanges() {
        NightLots lots = busy();
        lots.forget();
        NightLots other = busy();
        other.seen(20, 1, 1);
        other.seen(0, 0, 0);
        other.forget();
        same("behind seen() and forget()", told(other), told(lots));
    }

    // ---- promise 23: forget

    static void promise23_howManyWere() {
        for (int filled = 0; filled <= 6; filled++) {
            NightLots lots = withSeen(filled);
            due("forget() of " + filled, lots.forget(), filled);
            due("count(4)", lots.count(4), 0);
            due("kinds(0)", lots.kinds(0), 15);
            due("forget() again", lots.forget(), 0);
        }
    }

    static void promise23_behindSixThereIsRoomAgain() {
        NightLots lots = withSeen(6);
        lots.seen(0, 0, 0);
        due("forget()", lots.forget(), 6);
        for (int i = 1; i <= 6; i++) {
            due("seen(0, 0, 0)", lots.seen(0, 0, 0), i);
        }
        due("seen(0, 0, 0)", lots.seen(0, 0, 0), FULL);
    }

    static void promise23_ofNoneNothingChanges() {
        changesNothing(() -> withSeen(0), "forget()", NightLots::forget);
    }

    static void promise23_whatWasSeenAheadIsNoMoreLookedAt() {
        NightLots lots = new NightLots();
        lots.seen(0, 1, 0);
        due("kinds(1)", lots.kinds(1), 13);
        lots.forget();
        due("kinds(1), forgotten", lots.kinds(1), 15);
        lots.seen(0, 1, 1);
        due("kinds(1), a gap", lots.kinds(1), 2);
    }

    // ---- promise 24: kinds

    static void promise24_housesAreSuchAsThereAre() {
        bounds(Checks::busy, "kinds(?)", 0, 2, NightLots::kinds);
        bounds(Checks::two, "kinds(?)", 0, 1, NightLots::kinds);
        bounds(Checks::seven, "kinds(?)", 0, 6, NightLots::kinds);
    }

    static void promise24_allIfNothingIsSeen() {
        for (int h = 0; h < 5; h++) {
            due("kinds(" + h + ")", new NightLots().kinds(h), 15);
        }
    }

    static void promise24_noneIfAnotherHouseIsNotSo() {
        NightLots lots = new NightLots();
        lots.seen(0, 1, 0);
        due("kinds(0)", lots.kinds(0), 0);
        due("kinds(1)", lots.kinds(1), 13);
    }

    static void promise24_eachKindAlone() {
        // Burden 10 at hour 0: plain 10, young 20, widowed (had it) 5, gay 7; strength 9, 8, .. tell them apart.
        int[] strengths = {4, 5, 6, 7, 9, 10, 19, 20};
        int[] keep = {0, 4, 4, 12, 12, 13, 13, 15};
        for (int i = 0; i < strengths.length; i++) {
            NightLots lots = laid("n20;n20;h0," + strengths[i] + ",0;h0,0,0;");
            lots.pass(1);
            lots.swap(0, 1);
            lots.burden(0, 10);
            due("house(0, 3)", lots.house(0, 3), strengths[i] == 20 ? 2 : 0);
            if (strengths[i] == 20) {
                lots.rest(0);
            }
            lots.seen(0, 0, 0);
            due("kinds(0) that keep, of strength " + strengths[i], lots.kinds(0), keep[i]);
            lots.forget();
            lots.seen(0, 0, 1);
            due("kinds(0) that miss, of strength " + strengths[i], lots.kinds(0), 15 - keep[i]);
        }
    }

    static void promise24_aGayOneIsInTheMiddleAsAPlainOne() {
        NightLots lots = laid("n20;n10;n20;h0,0,0;h0,9,0;h0,0,0;");
        lots.seen(0, 1, 0);
        due("kinds(1) that keep", lots.kinds(1), 0);
        lots.burden(1, 9);
        due("kinds(1) that keep 9", lots.kinds(1), 13);
        lots.burden(1, 4);
        due("kinds(1) that keep 4", lots.kinds(1), 15);
    }

    /** Strength 40 keeps hour 5, of burden 2, until tired by 40: behind 19 nights house 0 does, behind 20 house 6 does not. */
    private static NightLots late() {
        return laid("n0;n0;n0;n0;n0;n2;n0;" + "h0,40,0;".repeat(7));
    }

    static void promise24_behind20NightsAtMost() {
        NightLots lots = late();
        lots.seen(20, 5, 1);
        due("kinds(6), a gap behind 20", lots.kinds(6), 15);
        lots.forget();
        lots.seen(20, 5, 0);
        due("kinds(6), no gap behind 20", lots.kinds(6), 0);
        lots.forget();
        lots.seen(19, 5, 0);
        due("kinds(0), no gap behind 19", lots.kinds(0), 13);
        due("kinds(1), no gap behind 19", lots.kinds(1), 15);
        lots.forget();
        lots.seen(19, 5, 1);
        due("kinds(0), a gap behind 19", lots.kinds(0), 2);
        due("kinds(1), a gap behind 19", lots.kinds(1), 0);
    }

    static void promise24_behind0Nights() {
        NightLots lots = laid("n10;n0;h0,10,0;h0,40,0;");
        lots.seen(0, 0, 0);
        due("kinds(0)", lots.kinds(0), 13);
        lots.burden(0, 5);
        due("kinds(0), lighter", lots.kinds(0), 15);
        lots.burden(0, 14);
        due("kinds(0), heavier", lots.kinds(0), 0);
        lots.burden(0, 13);
        due("kinds(0), a gay one alone", lots.kinds(0), 8);
    }

    static void promise24_byHowAllStandsWhenThatIsAsked() {
        NightLots lots = laid("n10;n0;h0,10,0;h0,40,0;");
        lots.seen(0, 0, 0);
        due("kinds(1)", lots.kinds(1), 15);
        lots.pass(1);
        due("kinds(1), having hour 0", lots.kinds(1), 15);
        due("kinds(0), having hour 1", lots.kinds(0), 15);
        lots.undo();
        due("kinds(0), undone", lots.kinds(0), 13);
        lots.keep();
        lots.burden(0, 5);
        due("kinds(0), lighter", lots.kinds(0), 15);
        lots.back();
        due("kinds(0), taken back", lots.kinds(0), 13);
    }

    static void promise24_beyondTheLastNight() {
        NightLots lots = atNight(999);
        lots.seen(20, 0, 0);
        due("kinds(0)", lots.kinds(0), 15);
        lots.forget();
        lots.seen(20, 1, 1);
        due("kinds(1)", lots.kinds(1), 0);
    }

    static void promise24_ofTheStrengthThatItHas() {
        NightLots lots = laid("n0;n20;h0,0,0;h1,40,0;");
        lots.seen(0, 1, 0);
        due("kinds(1)", lots.kinds(1), 15);
        NightLots weaker = laid("n0;n20;h0,0,0;h1,39,0;");
        weaker.seen(0, 1, 0);
        due("kinds(1), one weaker", weaker.kinds(1), 13);
    }

    static void promise24_askingChangesNothing() {
        changesNothing(Checks::busy, "kinds(0)", lots -> lots.kinds(0));
        changesNothing(WhatWasSeenEdges::late, "kinds(6)", lots -> lots.kinds(6));
    }

    // ---- promise 25: strengths

    static void promise25_housesAreSuchAsThereAre() {
        bounds(Checks::busy, "strengths(?, 0)", 0, 2, (lots, h) -> lots.strengths(h, 0));
        bounds(Checks::two, "strengths(?, 1)", 0, 1, (lots, h) -> lots.strengths(h, 1));
        bounds(Checks::seven, "strengths(?, 1)", 0, 6, (lots, h) -> lots.strengths(h, 1));
    }

    static void promise25_whatIs0Or1() {
        bounds(Checks::busy, "strengths(0, ?)", 0, 1, (lots, what) -> lots.strengths(0, what));
        bounds(Checks::two, "strengths(1, ?)", 0, 1, (lots, what) -> lots.strengths(1, what));
    }

    private static void dueStrengths(NightLots lots, int h, int howMany, int least) {
        due("strengths(" + h + ", 0)", lots.strengths(h, 0), howMany);
        due("strengths(" + h + ", 1)", lots.strengths(h, 1), least);
    }

    static void promise25_allIfNothingIsSeen() {
        dueStrengths(new NightLots(), 0, 41, 0);
        dueStrengths(atNight(999), 1, 41, 0);
    }

    private static NightLots seenAt(String text, int k, int is) {
        NightLots lots = laid(text);
        lots.seen(0, k, is);
        return lots;
    }

    static void promise25_from0To40() {
        // For a young one 20 is 40: strength 40 alone keeps it.
        dueStrengths(seenAt("n20;n0;h1,0,0;h0,0,0;", 0, 0), 0, 1, 40);
        dueStrengths(seenAt("n20;n0;h1,0,0;h0,0,0;", 0, 1), 0, 40, 0);
        dueStrengths(seenAt("n19;n0;h1,0,0;h0,0,0;", 0, 0), 0, 3, 38);
        dueStrengths(seenAt("n1;n0;h0,9,0;h0,0,0;", 0, 0), 0, 40, 1);
        dueStrengths(seenAt("n1;n0;h0,9,0;h0,0,0;", 0, 1), 0, 1, 0);
        dueStrengths(seenAt("n0;n0;h0,9,0;h0,0,0;", 0, 0), 0, 41, 0);
        dueStrengths(seenAt("n0;n0;h0,9,0;h0,0,0;", 0, 1), 0, 0, NONE);
    }

    static void promise25_noneThatIsStrongEnough() {
        NightLots lots = laid("n0;n20;h1,40,0;h0,40,0;");
        lots.pass(1);
        lots.seen(0, 1, 0);
        dueStrengths(lots, 0, 0, NONE);
        lots.burden(1, 19);
        dueStrengths(lots, 0, 1, 40);
        lots.burden(1, 18);
        dueStrengths(lots, 0, 3, 38);
    }

    static void promise25_noneIfAnotherHouseIsNotSo() {
        NightLots lots = new NightLots();
        lots.seen(0, 1, 0);
        dueStrengths(lots, 0, 0, NONE);
        dueStrengths(lots, 1, 27, 14);
    }

    static void promise25_noneChangesNothing() {
        refused(() -> seenAt("n0;n0;h0,9,0;h0,0,0;", 0, 1), "strengths(0, 1)", NONE, lots -> lots.strengths(0, 1));
    }

    static void promise25_badGoesAheadOfNone() {
        refused(() -> seenAt("n0;n0;h0,9,0;h0,0,0;", 0, 1), "strengths(2, 1)", BAD, lots -> lots.strengths(2, 1));
        refused(() -> seenAt("n0;n0;h0,9,0;h0,0,0;", 0, 1), "strengths(-1, 1)", BAD, lots -> lots.strengths(-1, 1));
        refused(() -> seenAt("n0;n0;h0,9,0;h0,0,0;", 0, 1), "strengths(0, 2)", BAD, lots -> lots.strengths(0, 2));
    }

    static void promise25_behind20NightsAtMost() {
        // Hours of 0: a strength keeps until it is tired by more, misses then, is tired by 3 less, and so on.
        NightLots lots = atNight(0);
        lots.seen(20, 0, 1);
        dueStrengths(lots, 0, 16, 3);
        lots.seen(18, 0, 1);
        dueStrengths(lots, 0, 7, 4);
        lots.forget();
        lots.seen(20, 0, 0);
        dueStrengths(lots, 0, 25, 0);
        lots.forget();
        lots.seen(19, 1, 1);
        dueStrengths(lots, 0, 17, 0);
    }

    static void promise25_theyNeedNotLieTogether() {
        NightLots lots = atNight(0);
        lots.seen(2, 0, 1);
        // 2 and 3 keep two nights and are tired by 4 then; 0 and 1 missed the second one and are tired by 0.
        dueStrengths(lots, 0, 2, 2);
        lots.forget();
        lots.seen(3, 1, 1);
        // 4 and 5 are tired by 6 then; 0 and 1 by 2 again.
        dueStrengths(lots, 0, 4, 0);
        lots.forget();
        lots.seen(2, 0, 0);
        dueStrengths(lots, 0, 39, 0);
    }

    static void promise25_byHowAllStandsWhenThatIsAsked() {
        NightLots lots = laid("n10;n0;h0,10,0;h0,40,0;");
        lots.seen(0, 0, 0);
        dueStrengths(lots, 0, 31, 10);
        dueStrengths(lots, 1, 41, 0);
        lots.pass(1);
        // House 1 has hour 0 now, tired by 2.
        dueStrengths(lots, 0, 41, 0);
        dueStrengths(lots, 1, 29, 12);
        lots.rest(1);
        dueStrengths(lots, 1, 31, 10);
        lots.burden(0, 20);
        dueStrengths(lots, 1, 21, 20);
    }

    static void promise25_beyondTheLastNight() {
        // Tired by 37, 0 to 30 miss all three nights, 34 and 35 the first and the third, 39 the third.
        NightLots lots = atNight999TiredBy37();
        lots.seen(2, 1, 1);
        due("strengths(0, 0) that miss", lots.strengths(0, 0), 34);
        due("strengths(0, 1) that miss", lots.strengths(0, 1), 0);
        lots.forget();
        lots.seen(2, 1, 0);
        due("strengths(0, 0) that keep", lots.strengths(0, 0), 7);
        due("strengths(0, 1) that keep", lots.strengths(0, 1), 31);
        due("count(1)", lots.count(1), 999);
    }

    static void promise25_askingChangesNothing() {
        changesNothing(Checks::busy, "strengths(0, 0)", lots -> lots.strengths(0, 0));
        changesNothing(Checks::busy, "strengths(2, 1)", lots -> lots.strengths(2, 1));
    }
}
