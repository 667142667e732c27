/** Promises 26 and 27, sentence by sentence, where one names a bound: at it, just inside, just outside; what is refused. */
public final class ChanceEdges extends Checks {
    private static final int PLAIN = 0;

    public static void main(String[] args) {
        runAll(ChanceEdges.class);
    }

    // ---- promise 26: likely

    static void promise26_housesAreSuchAsThereAre() {
        bounds(Checks::busy, "likely(?, 5, 0)", 0, 2, (lots, h) -> lots.likely(h, 5, 0));
        bounds(Checks::two, "likely(?, 9, 1)", 0, 1, (lots, h) -> lots.likely(h, 9, 1));
        bounds(Checks::seven, "likely(?, 0, 1)", 0, 6, (lots, h) -> lots.likely(h, 0, 1));
    }

    static void promise26_xIsFrom0To9() {
        bounds(Checks::busy, "likely(0, ?, 0)", 0, 9, (lots, x) -> lots.likely(0, x, 0));
        bounds(Checks::busy, "likely(0, ?, 1)", 0, 9, (lots, x) -> lots.likely(0, x, 1));
    }

    static void promise26_partIs0Or1() {
        bounds(Checks::busy, "likely(0, 5, ?)", 0, 1, (lots, part) -> lots.likely(0, 5, part));
    }

    private static void dueLikely(NightLots lots, int h, int x, int above, int below) {
        due("likely(" + h + ", " + x + ", 0)", lots.likely(h, x, 0), above);
        due("likely(" + h + ", " + x + ", 1)", lots.likely(h, x, 1), below);
    }

    static void promise26_byXOfTenItIsTiredByXMore() {
        NightLots lots = laid("n10;n10;h0,10,0;h0,19,0;");
        // House 0 keeps 10 only as it is: by ten less x of ten; for house 1 ten less is one too many.
        int[] above = {1, 9, 4, 7, 3, 1, 2, 3, 1, 1};
        int[] below = {1, 10, 5, 10, 5, 2, 5, 10, 5, 10};
        for (int x = 0; x <= 9; x++) {
            dueLikely(lots, 0, x, above[x], below[x]);
            dueLikely(lots, 1, x, 1, 1);
        }
        lots.burden(0, 11);
        dueLikely(lots, 1, 8, 1, 1);
        dueLikely(lots, 1, 9, 11, 20);
    }

    static void promise26_atTheStrengthItself() {
        NightLots lots = laid("n10;n11;h0,13,0;h0,0,0;");
        dueLikely(lots, 0, 1, 1, 1);
        dueLikely(lots, 0, 2, 1, 1);
        dueLikely(lots, 0, 3, 17, 20);
        dueLikely(lots, 0, 4, 3, 5);
    }

    static void promise26_tiredBy40AtMost() {
        for (int tired : new int[] {31, 32, 39, 40}) {
            dueLikely(tiredBy(tired, PLAIN, 40), 0, 9, 1, 1);
            dueLikely(tiredBy(tired, PLAIN, 40), 0, 1, 1, 1);
        }
        NightLots lots = tiredBy(31, PLAIN, 40);
        lots.burden(0, 1);
        // By 30 to 39 it keeps 1, by 40 it does not.
        dueLikely(lots, 0, 8, 1, 1);
        dueLikely(lots, 0, 9, 11, 20);
        dueLikely(tiredBy(38, PLAIN, 39), 0, 2, 4, 5);
        dueLikely(tiredBy(38, PLAIN, 39), 0, 1, 1, 1);
    }

    static void promise26_neverAndAlwaysInLowestTerms() {
        NightLots lots = laid("n1;n1;h0,0,0;h0,40,0;");
        for (int x = 0; x <= 9; x++) {
            dueLikely(lots, 0, x, 0, 1);
            dueLikely(lots, 1, x, 1, 1);
        }
    }

    static void promise26_eachHourIsAsLikely() {
        for (int n = 2; n <= 7; n++) {
            StringBuilder text = new StringBuilder("n1;");
            for (int k = 1; k < n; k++) {
                text.append("n2;");
            }
            text.append("h0,1,0;".repeat(n));
            NightLots lots = laid(text.toString());
            for (int h = 0; h < n; h++) {
                dueLikely(lots, h, 0, 1, n);
            }
            lots.pass(1);
            dueLikely(lots, n - 1, 0, 1, n);
        }
        NightLots lots = laid("n0;n1;n2;n3;n4;n5;n6;" + "h0,3,0;".repeat(7));
        dueLikely(lots, 6, 0, 4, 7);
        // Tired by 1 it keeps 0, 1, 2 and, by nine of ten, 3.
        dueLikely(lots, 6, 1, 39, 70);
    }

    static void promise26_itIsByItsKind() {
        NightLots lots = laid("n10;n10;n10;h3,7,0;h1,19,0;h2,5,0;");
        dueLikely(lots, 0, 0, 2, 3);
        dueLikely(lots, 1, 0, 0, 1);
        dueLikely(lots, 2, 0, 0, 1);
        lots.pass(1);
        // House 2 missed hour 2 and has had it now: half of 10.
        dueLikely(lots, 2, 0, 1, 3);
    }

    static void promise26_atNight999() {
        dueLikely(atNight(999), 0, 9, 1, 1);
    }

    static void promise26_askingChangesNothing() {
        changesNothing(Checks::busy, "likely(0, 9, 0)", lots -> lots.likely(0, 9, 0));
        changesNothing(Checks::busy, "likely(2, 0, 1)", lots -> lots.likely(2, 0, 1));
    }

    // ---- promise 27: winter

    static void promise27_zIsFrom0To9999() {
        bounds(Checks::busy, "winter(?, 1, 0)", 0, 9999, (lots, z) -> lots.winter(z, 1, 0));
        bounds(Checks::busy, "winter(?, 60, 1)", 0, 9999, (lots, z) -> lots.winter(z, 60, 1));
    }

    static void promise27_nightsAreFrom1To60() {
        bounds(Checks::busy, "winter(0, ?, 0)", 1, 60, (lots, n) -> lots.winter(0, n, 0));
        bounds(Checks::busy, "winter(9999, ?, 2)", 1, 60, (lots, n) -> lots.winter(9999, n, 2));
    }

    static void promise27_whatIsFrom0To2() {
        bounds(Checks::busy, "winter(0, 1, ?)", 0, 2, (lots, what) -> lots.winter(0, 1, what));
        bounds(Checks::busy, "winter(9999, 60, ?)", 0, 2, (lots, what) -> lots.winter(9999, 60, what));
    }

    private static int draw(int z, int night) {
        long x = (7919L * z + 6151L * night + 1) % 65521;
        return (int) (x * x % 65521) >> 1;
    }

    /** What a winter does ahead of a night, by the calls that act: those that change nothing are refused. */
    private static void act(NightLots lots, int draw) {
        int one = draw % lots.count(0);
        int other = (draw >> 3) % lots.count(0);
        switch ((draw >> 6) % 4) {
            case 0: lots.swap(one, other); break;
            case 1: lots.rest(one); break;
            case 2: lots.burden(lots.house(one, 4), (draw >> 8) % 21); break;
            default: break;
        }
    }

    private static void dueWinter(NightLots asked, NightLots acted, int z, int n) {
        int gaps = acted.count(2);
        for (int night = 0; night < n; night++) {
            act(acted, draw(z, night));
            acted.pass(1);
        }
        String winter = "winter(" + z + ", " + n + ", ";
        due(winter + "0)", asked.winter(z, n, 0), acted.count(2) - gaps);
        due(winter + "1)", asked.winter(z, n, 1), acted.count(3));
        due(winter + "2)", asked.winter(z, n, 2), acted.house(0, 4));
    }

    static void promise27_atItsBoundsItIsAsIfDone() {
        for (int z : new int[] {0, 1, 2, 4999, 9998, 9999}) {
            for (int n : new int[] {1, 2, 59, 60}) {
                dueWinter(new NightLots(), new NightLots(), z, n);
                dueWinter(busy(), busy(), z, n);
                dueWinter(two(), two(), z, n);
                dueWinter(seven(), seven(), z, n);
            }
        }
    }

    static void promise27_oneNightByEveryZ() {
        for (int z = 0; z <= 9999; z++) {
            dueWinter(busy(), busy(), z, 1);
        }
    }

    /** The lowest z whose first draw does this deed with these two houses of three. */
    private static int withDraw(int deed, int one, int other) {
        for (int z = 0; z <= 9999; z++) {
            int draw = draw(z, 0);
            if ((draw >> 6) % 4 == deed && draw % 3 == one && (draw >> 3) % 3 == other) {
                return z;
            }
        }
        fail("no such draw: " + deed + ", " + one + ", " + other);
        return 0;
    }

    static void promise27_alikeAreNotSwapped() {
        for (int h = 0; h < 3; h++) {
            NightLots lots = busy();
            due("winter of one night, " + h + " with itself: hour of 0", lots.winter(withDraw(0, h, h), 1, 2), 0);
        }
        // 0 has hour 2, 1 hour 1, 2 hour 0; swapped, the hour behind the other one's is 0's.
        due("winter of one night, 0 with 1", busy().winter(withDraw(0, 0, 1), 1, 2), 2);
        due("winter of one night, 1 with 0", busy().winter(withDraw(0, 1, 0), 1, 2), 2);
        due("winter of one night, 0 with 2", busy().winter(withDraw(0, 0, 2), 1, 2), 1);
        due("winter of one night, 1 with 2", busy().winter(withDraw(0, 1, 2), 1, 2), 0);
    }

    static void promise27_restIsForTheFirstOneAndForTheTired() {
        // Tired by 6, 1 and 0; strength 14 keeps 6 and is tired by 8; strength 9 misses 12; strength 2 keeps 1 and is tired by 2.
        NightLots lots = busy();
        due("count(3)", lots.count(3), 7);
        lots.pass(1);
        due("count(3), a night later", lots.count(3), 10);
        due("winter of one night, 0 rests", busy().winter(withDraw(1, 0, 1), 1, 1), 5);
        due("winter of one night, 1 rests", busy().winter(withDraw(1, 1, 0), 1, 1), 10);
        due("winter of one night, 2 is not tired", busy().winter(withDraw(1, 2, 0), 1, 1), 10);
    }

    static void promise27_burdensAreFrom0To20() {
        boolean[] drawn = new boolean[21];
        for (int z = 0; z <= 9999; z++) {
            int draw = draw(z, 0);
            if ((draw >> 6) % 4 == 2) {
                int burden = (draw >> 8) % 21;
                drawn[burden] = true;
                // All have strength 10, and hours of 10: one of more is missed.
                NightLots lots = laid("n10;n10;n10;h0,10,0;h0,10,0;h0,10,0;");
                due("winter(" + z + ", 1, 0), burden " + burden, lots.winter(z, 1, 0), burden > 10 ? 1 : 0);
            }
        }
        for (int burden = 0; burden <= 20; burden++) {
            if (!drawn[burden]) {
                fail("never drawn: " + burden);
            }
        }
    }

    static void promise27_theFourthDeedIsNone() {
        int z = withDraw(3, 1, 2);
        NightLots lots = busy();
        int gaps = Integer.bitCount(lots.gaps());
        due("winter(" + z + ", 1, 0)", lots.winter(z, 1, 0), gaps);
        due("winter(" + z + ", 1, 1)", lots.winter(z, 1, 1), 10);
        due("winter(" + z + ", 1, 2)", lots.winter(z, 1, 2), 0);
    }

    static void promise27_nightsAreCountedFrom0WhateverTheNight() {
        for (int z : new int[] {0, 77, 9999}) {
            for (int what = 0; what < 3; what++) {
                int early = atNight(40).winter(z, 60, what);
                due("winter(" + z + ", 60, " + what + ") from night 998", atNight(998).winter(z, 60, what), early);
                due("winter(" + z + ", 60, " + what + ") from night 42", atNight(42).winter(z, 60, what), early);
            }
        }
    }

    static void promise27_beyondTheLastNight() {
        for (int n : new int[] {1, 2, 60}) {
            for (int what = 0; what < 3; what++) {
                int early = atNight(41).winter(5, n, what);
                due("winter(5, " + n + ", " + what + ") from night 999", atNight(999).winter(5, n, what), early);
            }
        }
    }

    static void promise27_gapsAreThoseInItAlone() {
        NightLots lots = laid("n0;n0;h0,0,0;h0,40,0;");
        lots.pass(20);
        int soFar = lots.count(2);
        due("gaps so far", soFar, 10);
        due("winter(0, 1, 0)", lots.winter(0, 1, 0), 0);
        lots.pass(1);
        due("winter(0, 1, 0), one more night later", lots.winter(0, 1, 0), 1);
    }

    static void promise27_nothingChangesByIt() {
        for (int what = 0; what < 3; what++) {
            int asked = what;
            changesNothing(Checks::busy, "winter(9999, 60, " + what + ")", lots -> lots.winter(9999, 60, asked));
            changesNothing(() -> atNight(999), "winter(0, 60, " + what + ")", lots -> lots.winter(0, 60, asked));
        }
    }
}
