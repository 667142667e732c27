/** Promises 28 to 30, sentence by sentence, where one names a bound: at it, just inside, just outside; what is refused. */
public final class KeptAsideEdges extends Checks {
    private static final String SEVEN = "n0;n0;n0;n0;n0;n0;n0;";

    public static void main(String[] args) {
        runAll(KeptAsideEdges.class);
    }

    /** So many kept aside; the burden of hour 2 is 1 in the first, 2 in the second, and 9 now. */
    private static NightLots withKept(int filled) {
        NightLots lots = laid("n4;n7;n0;h0,14,10;h2,9,22;h3,7,41;");
        for (int i = 1; i <= filled; i++) {
            lots.burden(2, i);
            lots.keep();
        }
        lots.pass(2);
        lots.burden(2, 9);
        return lots;
    }

    // ---- promise 28: keep

    static void promise28_twoAtMost() {
        NightLots lots = new NightLots();
        due("keep()", lots.keep(), 1);
        due("count(6)", lots.count(6), 1);
        due("keep()", lots.keep(), 2);
        due("count(6)", lots.count(6), 2);
        due("keep(), the third", lots.keep(), FULL);
        due("keep(), the third again", lots.keep(), FULL);
        due("count(6)", lots.count(6), 2);
    }

    static void promise28_whenFullNothingChanges() {
        refused(() -> withKept(2), "keep()", FULL, NightLots::keep);
        NightLots lots = withKept(2);
        lots.pass(1);
        lots.keep();
        due("back()", lots.back(), 1);
        due("hour(2, 0), the second that was kept", lots.hour(2, 0), 2);
        due("back()", lots.back(), 0);
        due("hour(2, 0), the first that was kept", lots.hour(2, 0), 1);
    }

    static void promise28_takenBackThereIsRoomAgain() {
        NightLots lots = withKept(2);
        lots.back();
        due("keep()", lots.keep(), 2);
        due("keep()", lots.keep(), FULL);
        lots.back();
        lots.back();
        due("keep()", lots.keep(), 1);
        due("keep()", lots.keep(), 2);
        due("keep()", lots.keep(), FULL);
    }

    static void promise28_laidAnewThereIsRoomAgain() {
        NightLots lots = withKept(2);
        due("lay()", lots.lay(), 3);
        due("count(6)", lots.count(6), 0);
        due("back()", lots.back(), NO);
        due("keep()", lots.keep(), 1);
    }

    static void promise28_nothingElseChanges() {
        NightLots lots = withKept(1);
        due("keep()", lots.keep(), 2);
        dueCounts("behind keep()", lots, 3, 2, withKept(1).count(2), withKept(1).count(3), 0, 3, 2, 34);
        due("undo()", lots.undo(), 2);
        due("hour(2, 0)", lots.hour(2, 0), 1);
        due("undo()", lots.undo(), 1);
        due("count(1)", lots.count(1), 0);
        due("count(6), undone", lots.count(6), 2);
    }

    // ---- promise 29: back

    static void promise29_withoutOneKeptAsideItIsRefused() {
        refused(NightLots::new, "back()", NO, NightLots::back);
        refused(() -> withKept(0), "back()", NO, NightLots::back);
        refused(() -> {
            NightLots lots = withKept(2);
            lots.back();
            lots.back();
            lots.swap(0, 1);
            return lots;
        }, "back(), all taken back", NO, NightLots::back);
    }

    static void promise29_theLastFirstAndHowManyAreLeft() {
        NightLots lots = withKept(2);
        due("back()", lots.back(), 1);
        due("count(6)", lots.count(6), 1);
        due("hour(2, 0)", lots.hour(2, 0), 2);
        due("back()", lots.back(), 0);
        due("count(6)", lots.count(6), 0);
        due("hour(2, 0)", lots.hour(2, 0), 1);
        due("back()", lots.back(), NO);
        due("hour(2, 0)", lots.hour(2, 0), 1);
        NightLots one = withKept(1);
        due("back() of one", one.back(), 0);
        due("back() of none", one.back(), NO);
    }

    static void promise29_allIsAsItStoodThen() {
        NightLots lots = busy();
        lots.undo();
        lots.back();
        NightLots fresh = laid("n4;n9;n6;h0,14,10;h2,9,22;h3,2,41;");
        fresh.pass(2);
        fresh.seen(0, 1, 1);
        fresh.seen(2, 0, 0);
        fresh.wipe();
        // What was kept aside is fresh, but for the pass that can be undone there: laid alike, it is kept and taken back at once.
        fresh.keep();
        fresh.back();
        same("behind back()", told(lots), told(fresh));
    }

    static void promise29_nothingIsUndoneThen() {
        NightLots lots = withKept(1);
        due("count(5)", lots.count(5), 3);
        lots.back();
        due("count(5) behind back()", lots.count(5), 0);
        refused(() -> {
            NightLots back = withKept(1);
            back.back();
            return back;
        }, "undo() behind back()", NO, NightLots::undo);
        lots.swap(0, 1);
        due("undo()", lots.undo(), 0);
    }

    static void promise29_theTextAndWhatIsSeenStay() {
        NightLots lots = new NightLots();
        lots.write('n');
        lots.seen(0, 1, 1);
        lots.keep();
        lots.write('1');
        lots.write(';');
        lots.seen(0, 1, 0);
        due("back()", lots.back(), 0);
        due("count(7)", lots.count(7), 3);
        due("fault()", lots.fault(), NONE);
        due("count(4)", lots.count(4), 2);
        due("kinds(1)", lots.kinds(1), 0);
        lots.keep();
        lots.wipe();
        lots.forget();
        lots.back();
        due("count(7), wiped", lots.count(7), 0);
        due("count(4), forgotten", lots.count(4), 0);
        due("kinds(1), forgotten", lots.kinds(1), 15);
    }

    static void promise29_fromNight999ToNight0() {
        NightLots lots = laid("n0;n0;h0,40,0;h0,40,0;");
        lots.keep();
        for (int i = 0; i < 49; i++) {
            lots.pass(20);
        }
        lots.pass(19);
        due("keep()", lots.keep(), 2);
        due("pass(1)", lots.pass(1), NO);
        due("back()", lots.back(), 1);
        due("count(1)", lots.count(1), 999);
        due("pass(1)", lots.pass(1), NO);
        due("back()", lots.back(), 0);
        due("count(1)", lots.count(1), 0);
        due("count(3)", lots.count(3), 0);
        due("had(0, 0)", lots.had(0, 0), 0);
        due("pass(20)", lots.pass(20), 0);
    }

    static void promise29_whatIsKeptAsideDoesNotChangeByActs() {
        NightLots lots = busy();
        lots.pass(20);
        lots.swap(0, 1);
        lots.burden(0, 20);
        lots.undo();
        lots.undo();
        lots.winter(1, 60, 0);
        lots.back();
        NightLots other = busy();
        other.back();
        same("behind acts and back()", told(lots), told(other));
    }

    static void promise29_keptTwiceItIsTakenBackTwice() {
        NightLots lots = busy();
        lots.keep();
        lots.pass(3);
        due("back()", lots.back(), 1);
        due("count(1)", lots.count(1), 3);
        lots.pass(3);
        due("back()", lots.back(), 0);
        due("count(1)", lots.count(1), 2);
    }

    // ---- promise 30: count

    static void promise30_whatIsFrom0To7() {
        bounds(Checks::busyWithText, "count(?)", 0, 7, NightLots::count);
        bounds(NightLots::new, "count(?)", 0, 7, NightLots::count);
        dueCounts("of the busy valley", busyWithText(), 3, 3, 2, 7, 2, 5, 1, 16, BAD, BAD);
    }

    static void promise30_housesFrom2To7() {
        due("count(0) at first", new NightLots().count(0), 5);
        for (int n = 2; n <= 7; n++) {
            due("count(0)", laid("n1;".repeat(n) + "h0,0,0;".repeat(n)).count(0), n);
        }
    }

    static void promise30_theNightFrom0To999() {
        for (int night : new int[] {0, 1, 20, 998, 999}) {
            due("count(1)", atNight(night).count(1), night);
        }
    }

    static void promise30_gapsOfAllNights() {
        NightLots all = laid("n1;n1;n1;n1;n1;n1;n1;" + "h0,0,0;".repeat(7));
        for (int i = 0; i < 49; i++) {
            all.pass(20);
        }
        all.pass(19);
        due("count(2), all missed", all.count(2), 6993);
        due("house(6, 5)", all.house(6, 5), 999);
        due("count(2), none missed", atNight(999).count(2), 0);
    }

    static void promise30_gapsOfWhatIsUndoneAreNone() {
        NightLots lots = laid("n1;n1;h0,0,0;h0,0,0;");
        lots.pass(3);
        lots.pass(2);
        due("count(2)", lots.count(2), 10);
        lots.undo();
        due("count(2), pass(2) undone", lots.count(2), 6);
        lots.undo();
        due("count(2), all undone", lots.count(2), 0);
        due("house(0, 5), all undone", lots.house(0, 5), 0);
    }

    static void promise30_gapsBehindBackAreAsKeptAside() {
        NightLots lots = laid("n1;n1;h0,0,0;h0,0,0;");
        lots.pass(3);
        lots.keep();
        lots.pass(2);
        lots.back();
        due("count(2), taken back", lots.count(2), 6);
        lots.keep();
        lots.pass(1);
        lots.undo();
        due("count(2), undone", lots.count(2), 6);
        lots.back();
        due("count(2), taken back again", lots.count(2), 6);
    }

    static void promise30_howTiredAllAreFrom0To280() {
        due("count(3), nobody", new NightLots().count(3), 0);
        NightLots lots = laid(SEVEN + "h0,40,0;".repeat(7));
        lots.pass(19);
        due("count(3)", lots.count(3), 266);
        lots.pass(1);
        due("count(3)", lots.count(3), 280);
        lots.pass(20);
        due("count(3), 40 each at most", lots.count(3), 280);
        lots.rest(6);
        due("count(3), one rested", lots.count(3), 275);
    }

    static void promise30_whatIsFilledStepByStep() {
        NightLots lots = new NightLots();
        for (int i = 1; i <= 7; i++) {
            lots.seen(0, 0, 0);
            due("count(4)", lots.count(4), Math.min(i, 6));
        }
        for (int i = 1; i <= 9; i++) {
            lots.swap(0, 1);
            due("count(5)", lots.count(5), Math.min(i, 8));
        }
        for (int i = 1; i <= 3; i++) {
            lots.keep();
            due("count(6)", lots.count(6), Math.min(i, 2));
        }
        for (int i = 1; i <= 201; i++) {
            lots.write('n');
        }
        dueCounts("all being full", lots, 5, 0, 0, 0, 6, 8, 2, 200);
        lots.forget();
        lots.undo();
        lots.wipe();
        dueCounts("behind forget(), undo(), wipe()", lots, 5, 0, 0, 0, 0, 7, 2, 0);
        lots.back();
        dueCounts("behind back()", lots, 5, 0, 0, 0, 0, 0, 1, 0);
    }

    static void promise30_askingChangesNothing() {
        for (int what = 0; what < 8; what++) {
            int asked = what;
            changesNothing(Checks::busyWithText, "count(" + what + ")", lots -> lots.count(asked));
        }
    }
}
