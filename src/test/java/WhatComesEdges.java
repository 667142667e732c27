import java.util.function.Supplier;

/** Promises 15 to 21, sentence by sentence, where one names a bound: at it, just inside, just outside; what is refused. */
public final class WhatComesEdges extends Checks {
    private static final int PLAIN = 0;

    public static void main(String[] args) {
        runAll(WhatComesEdges.class);
    }

    // ---- promise 15: behind

    static void promise15_nightsAreFrom0To40() {
        bounds(Checks::busy, "behind(?, 0, 0)", 0, 40, (lots, n) -> lots.behind(n, 0, 0));
        bounds(Checks::busy, "behind(?, 2, 1)", 0, 40, (lots, n) -> lots.behind(n, 2, 1));
        NightLots lots = atNight(0);
        int[] nights = {0, 1, 2, 19, 20, 21, 39, 40};
        int[] tired = {0, 2, 4, 38, 40, 40, 40, 40};
        for (int i = 0; i < nights.length; i++) {
            due("behind(" + nights[i] + ", 1, 0)", lots.behind(nights[i], 1, 0), tired[i]);
            due("behind(" + nights[i] + ", 1, 1)", lots.behind(nights[i], 1, 1), (nights[i] + 1) % 2);
        }
        due("behind(41, 1, 0)", lots.behind(41, 1, 0), BAD);
    }

    static void promise15_behind0NightsAllIsAsItStands() {
        NightLots lots = busy();
        for (int h = 0; h < 3; h++) {
            due("behind(0, " + h + ", 0)", lots.behind(0, h, 0), lots.house(h, 3));
            due("behind(0, " + h + ", 1)", lots.behind(0, h, 1), lots.house(h, 4));
        }
    }

    static void promise15_housesAreSuchAsThereAre() {
        bounds(Checks::busy, "behind(0, ?, 0)", 0, 2, (lots, h) -> lots.behind(0, h, 0));
        bounds(Checks::busy, "behind(40, ?, 1)", 0, 2, (lots, h) -> lots.behind(40, h, 1));
        bounds(Checks::two, "behind(1, ?, 0)", 0, 1, (lots, h) -> lots.behind(1, h, 0));
        bounds(Checks::seven, "behind(1, ?, 0)", 0, 6, (lots, h) -> lots.behind(1, h, 0));
    }

    static void promise15_whatIs0Or1() {
        bounds(Checks::busy, "behind(0, 1, ?)", 0, 1, (lots, what) -> lots.behind(0, 1, what));
        bounds(Checks::busy, "behind(40, 1, ?)", 0, 1, (lots, what) -> lots.behind(40, 1, what));
    }

    static void promise15_itIsAsIfTheNightsHadGoneBy() {
        NightLots asked = busy();
        NightLots passed = busy();
        for (int n = 1; n <= 40; n++) {
            passed.pass(1);
            for (int h = 0; h < 3; h++) {
                due("behind(" + n + ", " + h + ", 0)", asked.behind(n, h, 0), passed.house(h, 3));
                due("behind(" + n + ", " + h + ", 1)", asked.behind(n, h, 1), passed.house(h, 4));
            }
        }
    }

    static void promise15_beyondTheLastNight() {
        for (int night : new int[] {959, 960, 979, 998, 999}) {
            NightLots lots = atNight(night);
            due("behind(40, 0, 0) of night " + night, lots.behind(40, 0, 0), 40);
            due("behind(40, 0, 1) of night " + night, lots.behind(40, 0, 1), night % 2);
            due("behind(1, 0, 1) of night " + night, lots.behind(1, 0, 1), (night + 1) % 2);
            due("count(1)", lots.count(1), night);
        }
    }

    static void promise15_tiredIsFrom0To40() {
        NightLots lots = laid("n0;n20;h0,40,0;h0,0,0;");
        // House 1 misses 20, keeps 0, is tired by 2 of 0 then, misses again and is tired by 0.
        int[] tired = {0, 0, 2, 0, 2, 0};
        for (int n = 0; n < tired.length; n++) {
            due("behind(" + n + ", 1, 0)", lots.behind(n, 1, 0), tired[n]);
        }
        NightLots strong = tiredBy(39, PLAIN, 40);
        due("behind(0, 0, 0)", strong.behind(0, 0, 0), 39);
        due("behind(1, 0, 0)", strong.behind(1, 0, 0), 40);
        due("behind(2, 0, 0)", strong.behind(2, 0, 0), 40);
    }

    static void promise15_askingChangesNothing() {
        changesNothing(Checks::busy, "behind(40, 0, 0)", lots -> lots.behind(40, 0, 0));
        changesNothing(Checks::busy, "behind(40, 2, 1)", lots -> lots.behind(40, 2, 1));
    }

    // ---- promise 16: gaps

    static void promise16_noneOneAndAll() {
        due("gaps(), none", atNight(0).gaps(), 0);
        due("gaps(), all of two", laid("n1;n1;h0,0,0;h0,0,0;").gaps(), 3);
        due("gaps(), all of seven", laid("n1;n1;n1;n1;n1;n1;n1;" + "h0,0,0;".repeat(7)).gaps(), 127);
        due("gaps(), the first hour", laid("n1;n0;n0;n0;n0;n0;n0;" + "h0,0,0;".repeat(7)).gaps(), 1);
        due("gaps(), the last hour", laid("n0;n0;n0;n0;n0;n0;n1;" + "h0,0,0;".repeat(7)).gaps(), 64);
    }

    static void promise16_bitsAreOfHoursNotOfHouses() {
        NightLots lots = laid("n1;n1;n1;h0,0,0;h0,40,0;h0,40,0;");
        int[] bits = {1, 2, 4, 1};
        for (int night = 0; night < bits.length; night++) {
            due("gaps() behind " + night, lots.gaps(), bits[night]);
            lots.pass(1);
        }
        lots.swap(0, 1);
        due("house(0, 4)", lots.house(0, 4), 2);
        due("gaps(), swapped", lots.gaps(), 4);
    }

    static void promise16_theyAreOfTheNightThatComes() {
        NightLots lots = laid("n1;n0;h0,0,0;h0,40,0;");
        due("gaps()", lots.gaps(), 1);
        due("count(2)", lots.count(2), 0);
        lots.pass(1);
        due("gaps(), none comes", lots.gaps(), 0);
        due("count(2)", lots.count(2), 1);
    }

    static void promise16_atTheStrengthItself() {
        NightLots lots = laid("n10;n10;h0,9,0;h0,10,0;");
        due("gaps()", lots.gaps(), 1);
        lots.burden(0, 9);
        due("gaps(), kept", lots.gaps(), 0);
        lots.burden(1, 11);
        due("gaps(), missed", lots.gaps(), 2);
    }

    static void promise16_atNight999() {
        NightLots lots = atNight(999);
        due("gaps()", lots.gaps(), 0);
        lots.burden(1, 1);
        due("gaps(), tired by 40", lots.gaps(), 2);
    }

    static void promise16_askingChangesNothing() {
        changesNothing(Checks::busy, "gaps()", NightLots::gaps);
    }

    // ---- promise 17: first

    static void promise17_housesAreSuchAsThereAre() {
        bounds(Checks::busy, "first(?)", 0, 2, NightLots::first);
        bounds(Checks::two, "first(?)", 0, 1, NightLots::first);
        bounds(Checks::seven, "first(?)", 0, 6, NightLots::first);
    }

    static void promise17_oneIsTheNightThatComes() {
        NightLots lots = laid("n1;n0;h0,0,0;h0,1,0;");
        due("first(0)", lots.first(0), 1);
        // House 1 keeps 0, then is tired by 2 ahead of hour 0.
        due("first(1)", lots.first(1), 2);
        lots.burden(1, 2);
        due("first(1), heavier", lots.first(1), 1);
    }

    static void promise17_theLastNightsInWhichOneCanMissFirst() {
        // Who keeps all is tired by 40 behind 20 nights at the latest; each hour comes round in the next seven: who has not
        // missed until the 27th night, does not in 40. Hour 5, of burden 2, is kept by strength 40 until tired by 40.
        NightLots lots = laid("n0;n0;n0;n0;n0;n2;n0;" + "h0,40,0;".repeat(7));
        for (int h = 0; h < 7; h++) {
            due("first(" + h + ")", lots.first(h), 27 - h);
        }
        lots.burden(5, 0);
        for (int h = 0; h < 7; h++) {
            due("first(" + h + "), burden 0", lots.first(h), NONE);
        }
        lots.pass(20);
        lots.burden(5, 1);
        int[] nights = {7, 6, 5, 4, 3, 2, 1};
        for (int h = 0; h < 7; h++) {
            due("first(" + h + "), tired by 40", lots.first(h), nights[h]);
        }
    }

    static void promise17_noneIfItMissesNoneIn40Nights() {
        for (int h = 0; h < 2; h++) {
            due("first(" + h + ")", atNight(0).first(h), NONE);
            due("first(" + h + ") of night 999", atNight(999).first(h), NONE);
        }
    }

    static void promise17_badGoesAheadOfNone() {
        for (int h : new int[] {-1, 2, 7, Integer.MIN_VALUE, Integer.MAX_VALUE}) {
            refused(() -> atNight(0), "first(" + h + "), nobody missing", BAD, lots -> lots.first(h));
        }
    }

    static void promise17_noneChangesNothing() {
        refused(() -> atNight(5), "first(1)", NONE, lots -> lots.first(1));
        refused(() -> atNight(999), "first(1)", NONE, lots -> lots.first(1));
    }

    static void promise17_whatItMissedByNowIsNotLookedAt() {
        NightLots lots = laid("n20;n0;n0;h0,19,0;h0,40,0;h0,40,0;");
        due("first(0)", lots.first(0), 1);
        lots.pass(1);
        due("house(0, 5)", lots.house(0, 5), 1);
        due("first(0), hour 0 coming round", lots.first(0), 3);
        lots.burden(0, 0);
        due("first(0), strength 19, tired by 20 behind 10 nights", lots.first(0), 11);
    }

    static void promise17_beyondTheLastNight() {
        due("first(0)", atNight999TiredBy37().first(0), 3);
    }

    static void promise17_askingChangesNothing() {
        changesNothing(Checks::busy, "first(0)", lots -> lots.first(0));
    }

    // ---- promise 18: even

    private static void dueEven(String text, int gaps, int... hours) {
        NightLots lots = laid(text);
        due("even(-1) of \"" + text + "\"", lots.even(-1), gaps);
        for (int h = 0; h < hours.length; h++) {
            due("even(" + h + ") of \"" + text + "\"", lots.even(h), hours[h]);
        }
    }

    static void promise18_aHouseIsSuchAsThereIsOrMinus1() {
        bounds(Checks::busy, "even(?)", -1, 2, NightLots::even);
        bounds(Checks::two, "even(?)", -1, 1, NightLots::even);
        bounds(Checks::seven, "even(?)", -1, 6, NightLots::even);
    }

    static void promise18_noGapAndAllGaps() {
        dueEven("n0;n0;h0,0,0;h0,0,0;", 0, 0, 1);
        dueEven("n1;n1;h0,0,0;h0,0,0;", 2, 0, 1);
        dueEven("n1;n1;n1;n1;n1;n1;n1;" + "h0,0,0;".repeat(7), 7, 0, 1, 2, 3, 4, 5, 6);
        dueEven("n0;n0;n0;n0;n0;n0;n0;" + "h0,0,0;".repeat(7), 0, 0, 1, 2, 3, 4, 5, 6);
    }

    static void promise18_keptIsWhatIsAsHeavyAsTheStrength() {
        dueEven("n10;n5;h0,5,0;h0,10,0;", 0, 1, 0);
        dueEven("n10;n5;h0,5,0;h0,9,0;", 1, 0, 1);
        dueEven("n10;n5;h0,5,0;h0,4,0;", 1, 1, 0);
        dueEven("n10;n5;h0,4,0;h0,9,0;", 1, 0, 1);
    }

    static void promise18_fewestGapsGoAheadOfHeaviest() {
        // A gay house of strength 2 keeps 5 at the end, but not 3 in the middle; the young one has 10 or 6 then.
        dueEven("n5;n3;n0;h1,40,0;h3,2,0;h0,0,0;", 0, 1, 0, 2);
        dueEven("n5;n3;n0;h1,40,0;h3,1,0;h0,0,0;", 1, 0, 1, 2);
    }

    static void promise18_heaviestAreTheHoursKeptAlone() {
        dueEven("n10;n5;h0,10,0;h0,4,0;", 1, 0, 1);
        dueEven("n5;n10;h0,10,0;h0,4,0;", 1, 1, 0);
    }

    static void promise18_heavyIsAsItIsForWhoKeepsIt() {
        dueEven("n3;n9;h1,40,0;h0,40,0;", 0, 1, 0);
        dueEven("n9;n3;h1,40,0;h0,40,0;", 0, 0, 1);
        dueEven("n9;n9;n9;h0,40,0;h0,40,0;h3,40,0;", 0, 0, 2, 1);
    }

    static void promise18_ofSeveralTheFirstWay() {
        dueEven("n3;n9;h0,40,0;h0,40,0;", 0, 0, 1);
        dueEven("n3;n9;n9;h0,40,0;h1,40,0;h0,40,0;", 0, 0, 1, 2);
        dueEven("n9;n3;n9;h0,40,0;h0,40,0;h1,40,0;", 0, 0, 1, 2);
        dueEven("n9;n9;n3;h0,40,0;h0,40,0;h1,40,0;", 0, 0, 2, 1);
        // The houses' own hours have no say in it.
        NightLots lots = laid("n3;n9;n5;h0,40,0;h0,40,0;h0,40,0;");
        lots.swap(0, 2);
        for (int h = 0; h < 3; h++) {
            due("even(" + h + "), swapped", lots.even(h), h);
        }
        lots.pass(1);
        for (int h = 0; h < 3; h++) {
            due("even(" + h + "), gone round", lots.even(h), h);
        }
    }

    static void promise18_itIsByHowTiredTheyAre() {
        NightLots lots = laid("n0;n10;h0,12,0;h0,40,0;");
        due("even(0)", lots.even(0), 0);
        lots.swap(0, 1);
        lots.pass(1);
        // Tired by 2 it keeps 10 still; by 4 no more.
        due("even(-1)", lots.even(-1), 0);
        due("even(0)", lots.even(0), 0);
        lots.burden(1, 11);
        lots.swap(0, 1);
        due("house(0, 4)", lots.house(0, 4), 1);
        due("gaps()", lots.gaps(), 2);
        due("even(-1)", lots.even(-1), 0);
        due("even(0)", lots.even(0), 0);
        due("even(1)", lots.even(1), 1);
    }

    static void promise18_askedAgainItIsByHowAllStandsThen() {
        NightLots lots = laid("n10;n5;h0,10,0;h0,5,0;");
        due("even(-1)", lots.even(-1), 0);
        lots.burden(1, 6);
        due("even(-1), heavier", lots.even(-1), 1);
        due("even(0), heavier", lots.even(0), 0);
        lots.burden(0, 11);
        due("even(-1), both heavier", lots.even(-1), 1);
        due("even(0), both heavier", lots.even(0), 1);
        due("even(1), both heavier", lots.even(1), 0);
        lots.undo();
        lots.undo();
        due("even(-1), undone", lots.even(-1), 0);
    }

    static void promise18_askingChangesNothing() {
        changesNothing(Checks::busy, "even(-1)", lots -> lots.even(-1));
        changesNothing(Checks::busy, "even(2)", lots -> lots.even(2));
        changesNothing(NightLots::new, "even(0)", lots -> lots.even(0));
    }

    // ---- promise 19: swaps

    static void promise19_noneIsNeededWithoutAGap() {
        due("swaps()", atNight(0).swaps(), 0);
        due("swaps() at the strength itself", laid("n10;n5;h0,10,0;h0,5,0;").swaps(), 0);
        due("swaps() of seven", laid("n1;n1;n1;n1;n1;n1;n1;" + "h0,1,0;".repeat(7)).swaps(), 0);
    }

    static void promise19_fromOneToOneLessThanThereAreHouses() {
        for (int n = 2; n <= 7; n++) {
            StringBuilder hours = new StringBuilder("n" + n + ";");
            StringBuilder houses = new StringBuilder("h0,1,0;");
            for (int k = 1; k < n; k++) {
                hours.append("n").append(k).append(";");
                houses.append("h0,").append(k + 1).append(",0;");
            }
            // Each house keeps but one way's hour: the one behind its own, that of the last one is hour 0.
            NightLots lots = laid(hours.toString() + houses);
            due("swaps() of " + n + " in a round", lots.swaps(), n - 1);
        }
    }

    static void promise19_toTheWayToWhichFewestLead() {
        due("swaps() of two pairs", laid("n2;n1;n4;n3;h0,1,0;h0,2,0;h0,3,0;h0,4,0;").swaps(), 2);
        due("swaps() of three pairs", laid("n2;n1;n4;n3;n6;n5;h0,1,0;h0,2,0;h0,3,0;h0,4,0;h0,5,0;h0,6,0;").swaps(), 3);
        // The heaviest way without a gap is two swaps off, another one but one.
        NightLots lots = laid("n5;n1;n4;h0,1,0;h0,5,0;h1,40,0;");
        due("even(0)", lots.even(0), 1);
        due("even(1)", lots.even(1), 2);
        due("even(2)", lots.even(2), 0);
        due("swaps()", lots.swaps(), 1);
    }

    static void promise19_noneIfThereIsNoWay() {
        refused(() -> laid("n10;n20;h0,10,0;h0,19,0;"), "swaps()", NONE, NightLots::swaps);
        due("swaps(), by one stronger", laid("n10;n20;h0,10,0;h0,20,0;").swaps(), 0);
        due("swaps(), the other one being strong", laid("n10;n20;h0,20,0;h0,10,0;").swaps(), 1);
        refused(() -> laid("n1;n1;n1;n1;n1;n1;n1;" + "h0,0,0;".repeat(7)), "swaps()", NONE, NightLots::swaps);
        // Each hour is kept by someone, but two of them by one house alone.
        refused(() -> laid("n9;n9;n1;h0,9,0;h0,1,0;h0,1,0;"), "swaps()", NONE, NightLots::swaps);
    }

    static void promise19_fromHowItStands() {
        NightLots lots = laid("n7;n1;n2;n3;n4;n5;n6;h0,1,0;h0,2,0;h0,3,0;h0,4,0;h0,5,0;h0,6,0;h0,7,0;");
        due("swaps()", lots.swaps(), 6);
        for (int h = 0; h < 6; h++) {
            lots.swap(h, h + 1);
            due("swaps() behind swap(" + h + ", " + (h + 1) + ")", lots.swaps(), 5 - h);
        }
        due("gaps()", lots.gaps(), 0);
        lots.undo();
        due("swaps(), one undone", lots.swaps(), 1);
    }

    static void promise19_askedAgainItIsByHowAllStandsThen() {
        NightLots lots = laid("n5;n10;h0,10,0;h0,5,0;");
        due("swaps()", lots.swaps(), 1);
        lots.burden(0, 6);
        due("swaps(), heavier", lots.swaps(), NONE);
        lots.burden(0, 5);
        due("swaps(), lighter", lots.swaps(), 1);
        lots.swap(0, 1);
        due("swaps(), swapped", lots.swaps(), 0);
        lots.pass(1);
        due("swaps(), tired by 2", lots.swaps(), NONE);
    }

    static void promise19_askingChangesNothing() {
        changesNothing(Checks::busy, "swaps()", NightLots::swaps);
        changesNothing(NightLots::new, "swaps()", NightLots::swaps);
    }

    // ---- promise 20: far

    static void promise20_whatIs0Or1() {
        bounds(Checks::busy, "far(?)", 0, 1, NightLots::far);
        bounds(Checks::two, "far(?)", 0, 1, NightLots::far);
        bounds(Checks::seven, "far(?)", 0, 1, NightLots::far);
    }

    private static void dueFar(String text, int farthest, int least) {
        NightLots lots = laid(text);
        due("far(0) of \"" + text + "\"", lots.far(0), farthest);
        due("far(1) of \"" + text + "\"", lots.far(1), least);
    }

    static void promise20_atTheEndsOfTheRoad() {
        dueFar("n1;n1;h0,0,0;h0,0,0;", 0, 0);
        dueFar("n1;n1;h0,0,99;h0,0,99;", 0, 0);
        dueFar("n1;n1;h0,0,0;h0,0,99;", 99, 99);
        dueFar("n1;n1;h0,0,99;h0,0,0;", 99, 99);
        dueFar("n1;n1;h0,0,98;h0,0,99;", 1, 1);
        dueFar("n1;n1;n1;n1;n1;n1;n1;" + "h0,0,99;h0,0,0;".repeat(3) + "h0,0,99;", 594, 99);
    }

    static void promise20_fromHour0OnAndNotBack() {
        dueFar("n1;n1;n1;h0,0,0;h0,0,10;h0,0,30;", 30, 30);
        dueFar("n1;n1;n1;h0,0,10;h0,0,0;h0,0,30;", 40, 30);
        dueFar("n1;n1;n1;h0,0,10;h0,0,30;h0,0,0;", 50, 30);
        NightLots lots = laid("n1;n1;n1;h0,0,0;h0,0,10;h0,0,30;");
        lots.pass(1);
        due("far(0), gone round", lots.far(0), 40);
        lots.pass(1);
        due("far(0), gone round again", lots.far(0), 50);
        lots.pass(1);
        due("far(0), all round", lots.far(0), 30);
        lots.swap(1, 2);
        due("far(0), swapped", lots.far(0), 50);
        due("far(1)", lots.far(1), 30);
    }

    static void promise20_whoMissesHandsOverAsWell() {
        dueFar("n20;n20;n20;h0,0,5;h0,0,50;h0,0,6;", 89, 45);
    }

    static void promise20_askingChangesNothing() {
        changesNothing(Checks::busy, "far(0)", lots -> lots.far(0));
        changesNothing(Checks::busy, "far(1)", lots -> lots.far(1));
    }

    // ---- promise 21: lamps

    private static void dueLamps(NightLots lots, int n, int bits) {
        due("lamps(" + n + ", 0)", lots.lamps(n, 0), bits == NONE ? NONE : Integer.bitCount(bits));
        due("lamps(" + n + ", 1)", lots.lamps(n, 1), bits);
    }

    static void promise21_nightsAreFrom1To40() {
        bounds(Checks::busy, "lamps(?, 0)", 1, 40, (lots, n) -> lots.lamps(n, 0));
        bounds(Checks::busy, "lamps(?, 1)", 1, 40, (lots, n) -> lots.lamps(n, 1));
        bounds(Checks::two, "lamps(?, 1)", 1, 40, (lots, n) -> lots.lamps(n, 1));
    }

    static void promise21_whatIs0Or1() {
        bounds(Checks::busy, "lamps(1, ?)", 0, 1, (lots, what) -> lots.lamps(1, what));
        bounds(Checks::two, "lamps(40, ?)", 0, 1, (lots, what) -> lots.lamps(40, what));
    }

    static void promise21_badGoesAheadOfNone() {
        due("lamps(1, 0)", new NightLots().lamps(1, 0), NONE);
        refused(NightLots::new, "lamps(0, 0)", BAD, lots -> lots.lamps(0, 0));
        refused(NightLots::new, "lamps(41, 0)", BAD, lots -> lots.lamps(41, 0));
        refused(NightLots::new, "lamps(1, -1)", BAD, lots -> lots.lamps(1, -1));
        refused(NightLots::new, "lamps(1, 2)", BAD, lots -> lots.lamps(1, 2));
    }

    static void promise21_noneIsNeededIfNoGapComes() {
        for (int n : new int[] {1, 2, 39, 40}) {
            dueLamps(atNight(0), n, 0);
            dueLamps(atNight(999), n, 0);
        }
    }

    /** Burden 5 is kept by strength 15 until it is tired by more than 10; it is tired by 6, and by 1 if it rests. */
    private static NightLots tiredBySix() {
        NightLots lots = laid("n5;n5;h0,15,0;h0,40,0;");
        lots.pass(3);
        return lots;
    }

    static void promise21_inTheNextNightsAndNoLonger() {
        NightLots lots = tiredBySix();
        int[] bits = {0, 0, 0, 0, 1, 1, NONE, NONE};
        for (int n = 1; n < bits.length; n++) {
            dueLamps(lots, n, bits[n]);
        }
        dueLamps(lots, 39, NONE);
        dueLamps(lots, 40, NONE);
    }

    static void promise21_theMostNightsThatARestCanBridge() {
        // House 0 has hour 0, of burden 2, in the 6th, 13th, 20th, 27th night: in the 20th it is tired by 40, by 38 if it rests.
        // The gay ones keep it all the time.
        NightLots lots = laid("n2;n0;n0;n0;n0;n0;n0;h0,40,0;" + "h3,40,0;".repeat(6));
        lots.pass(1);
        lots.swap(0, 1);
        due("house(0, 4)", lots.house(0, 4), 2);
        dueLamps(lots, 19, 0);
        dueLamps(lots, 20, 1);
        dueLamps(lots, 26, 1);
        dueLamps(lots, 27, NONE);
        dueLamps(lots, 40, NONE);
    }

    static void promise21_restIsFiveLess0AtLeastOnceEach() {
        for (int tired : new int[] {1, 2, 4, 5, 6, 7, 38, 39, 40}) {
            int strength = tired < 20 ? 19 : 40;
            int left = strength - (tired < 5 ? 0 : tired - 5);
            NightLots lots = tiredBy(tired, PLAIN, strength);
            int k = lots.house(0, 4);
            lots.burden(k, left);
            due("gaps(), tired by " + tired, lots.gaps(), 1 << k);
            dueLamps(lots, 1, 1);
            lots.burden(k, left + 1);
            dueLamps(lots, 1, NONE);
        }
    }

    static void promise21_whoIsNotTiredIsNotHelped() {
        Supplier<NightLots> valley = () -> laid("n10;n0;h0,9,0;h0,40,0;");
        refused(valley, "lamps(1, 0)", NONE, lots -> lots.lamps(1, 0));
        refused(valley, "lamps(1, 1)", NONE, lots -> lots.lamps(1, 1));
        dueLamps(laid("n10;n0;h0,10,0;h0,40,0;"), 1, 0);
    }

    static void promise21_beyondTheLastNight() {
        // It keeps by 37 and by 39, and misses by 40; if it rests, it keeps by 32, 34, 36, 38 first.
        NightLots lots = atNight999TiredBy37();
        int[] bits = {0, 0, 0, 1, 1, NONE, NONE};
        for (int n = 1; n < bits.length; n++) {
            dueLamps(lots, n, bits[n]);
        }
        dueLamps(lots, 40, NONE);
        due("count(1)", lots.count(1), 999);
    }

    static void promise21_theFewestHouses() {
        // All are tired by 6; strength 10 misses 5, strength 11 keeps it in this night, strength 13 in the next one, too.
        NightLots lots = laid("n5;n5;n5;n5;h0,10,0;h0,11,0;h0,10,0;h0,13,0;");
        lots.pass(3);
        dueLamps(lots, 1, 5);
        dueLamps(lots, 2, 7);
        dueLamps(lots, 3, 15);
        dueLamps(lots, 4, NONE);
    }

    static void promise21_allOfSeven() {
        NightLots lots = laid("n5;n5;n5;n5;n5;n5;n5;" + "h0,10,0;".repeat(7));
        lots.pass(3);
        due("gaps()", lots.gaps(), 127);
        dueLamps(lots, 1, 127);
        dueLamps(lots, 3, 127);
        dueLamps(lots, 4, NONE);
    }

    static void promise21_bitsAreOfHousesNotOfHours() {
        NightLots lots = laid("n5;n5;n5;h0,40,0;h0,40,0;h0,12,0;");
        lots.pass(4);
        due("house(2, 4)", lots.house(2, 4), 0);
        due("gaps()", lots.gaps(), 1);
        dueLamps(lots, 1, 4);
    }

    static void promise21_noneIfOneIsNotHelped() {
        NightLots lots = laid("n5;n5;h0,10,0;h0,0,0;");
        lots.pass(3);
        due("gaps()", lots.gaps(), 3);
        dueLamps(lots, 1, NONE);
    }

    static void promise21_askingChangesNothing() {
        changesNothing(Checks::busy, "lamps(1, 0)", lots -> lots.lamps(1, 0));
        changesNothing(WhatComesEdges::tiredBySix, "lamps(4, 0)", lots -> lots.lamps(4, 0));
        changesNothing(WhatComesEdges::tiredBySix, "lamps(5, 1)", lots -> lots.lamps(5, 1));
        changesNothing(WhatComesEdges::tiredBySix, "lamps(40, 1)", lots -> lots.lamps(40, 1));
    }
}
