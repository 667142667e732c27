/** The hours of the night, dealt by lot among the houses of a communal valley. */
public final class NightLots {
    public static final int BAD = -1, NO = -2, FULL = -3, NONE = -4;

    private static final int MOST_LETTERS = 200;
    private static final int MOST_HOUSES = 7;
    private static final int MOST_BURDEN = 20;
    private static final int MOST_STRENGTH = 40;
    private static final int MOST_PLACE = 99;
    private static final int MOST_TIRED = 40;
    private static final int LAST_NIGHT = 999;
    private static final int MOST_PASSED = 20;
    private static final int MOST_AHEAD = 40;
    private static final int MOST_UNDONE = 8;
    private static final int MOST_KEPT = 2;
    private static final int MOST_SEEN = 6;
    private static final int MOST_SEEN_AHEAD = 20;
    private static final int MOST_WINTER = 9999;
    private static final int MOST_WINTER_NIGHTS = 60;

    private static final int PLAIN = 0, YOUNG = 1, WIDOWED = 2, GAY = 3;
    private static final int TENTHS = 10;
    private static final int NOWHERE = -1;

    private static final String FIRST_ITEMS = "n4;n7;n12;n9;n5;h0,14,10;h1,9,22;h2,20,35;h3,12,41;h0,8,60;";

    private final int[] text = new int[MOST_LETTERS];
    private int letters = 0;
    private final Plan plan = new Plan();
    private final Valley now = new Valley();
    private final Valley ahead = new Valley();
    private final Shelf undoable = new Shelf(MOST_UNDONE);
    private final Shelf aside = new Shelf(MOST_KEPT);
    private final Sightings sightings = new Sightings();
    private final Deal deal = new Deal();

    public NightLots() {
        for (int i = 0; i < FIRST_ITEMS.length(); i++) {
            write(FIRST_ITEMS.charAt(i));
        }
        lay();
        wipe();
    }

    // ---- valleys

    public int write(int letter) {
        if (!isWithin(letter, 32, 126)) {
            return BAD;
        }
        if (letters >= MOST_LETTERS) {
            return FULL;
        }
        text[letters] = letter;
        letters++;
        return letters;
    }

    public int wipe() {
        int were = letters;
        letters = 0;
        return were;
    }

    public int fault() {
        plan.read(text, letters);
        return plan.fault == NOWHERE ? NONE : plan.fault;
    }

    public int lay() {
        plan.read(text, letters);
        if (!plan.canBeLaid()) {
            return NO;
        }
        now.settle(plan);
        undoable.clear();
        aside.clear();
        sightings.clear();
        return now.houses;
    }

    public int house(int h, int what) {
        if (!now.isHouse(h)) {
            return BAD;
        }
        switch (what) {
            case 0: return now.kindOf[h];
            case 1: return now.strengthOf[h];
            case 2: return now.placeOf[h];
            case 3: return now.tiredOf[h];
            case 4: return now.hourOf[h];
            case 5: return now.missedBy[h];
            default: return BAD;
        }
    }

    public int hour(int k, int what) {
        if (!now.isHour(k) || !isWithin(what, 0, 1)) {
            return BAD;
        }
        return what == 0 ? now.burdenOf[k] : now.houseWith(k);
    }

    public int heavy(int h, int k) {
        if (!now.isHouse(h) || !now.isHour(k)) {
            return BAD;
        }
        return now.heaviness(h, k);
    }

    public int had(int h, int k) {
        if (!now.isHouse(h) || !now.isHour(k)) {
            return BAD;
        }
        return now.timesHad(h, k);
    }

    // ---- acts

    public int pass(int n) {
        if (!isWithin(n, 1, MOST_PASSED)) {
            return BAD;
        }
        if (now.night + n > LAST_NIGHT) {
            return NO;
        }
        undoable.put(now);
        return now.letNightsPass(n);
    }

    public int swap(int a, int b) {
        if (!now.isHouse(a) || !now.isHouse(b) || a == b) {
            return BAD;
        }
        undoable.put(now);
        now.trade(a, b);
        return now.hourOf[a];
    }

    public int rest(int h) {
        if (!now.isHouse(h)) {
            return BAD;
        }
        if (now.tiredOf[h] == 0) {
            return NO;
        }
        undoable.put(now);
        now.giveRest(h);
        return now.tiredOf[h];
    }

    public int burden(int k, int b) {
        if (!now.isHour(k) || !isWithin(b, 0, MOST_BURDEN)) {
            return BAD;
        }
        int was = now.burdenOf[k];
        if (was == b) {
            return NO;
        }
        undoable.put(now);
        now.setBurden(k, b);
        return was;
    }

    public int undo() {
        if (!undoable.takeInto(now)) {
            return NO;
        }
        return undoable.filled;
    }

    // ---- what comes, what is best

    public int behind(int n, int h, int what) {
        if (!isWithin(n, 0, MOST_AHEAD) || !now.isHouse(h) || !isWithin(what, 0, 1)) {
            return BAD;
        }
        ahead.copyFrom(now);
        ahead.letNightsPass(n);
        return what == 0 ? ahead.tiredOf[h] : ahead.hourOf[h];
    }

    public int gaps() {
        int bits = 0;
        for (int k = 0; k < now.houses; k++) {
            if (now.isGapAt(k)) {
                bits |= 1 << k;
            }
        }
        return bits;
    }

    public int first(int h) {
        if (!now.isHouse(h)) {
            return BAD;
        }
        ahead.copyFrom(now);
        int night = nextMissAhead(h, MOST_AHEAD);
        return night == NOWHERE ? NONE : night;
    }

    public int even(int h) {
        if (h != -1 && !now.isHouse(h)) {
            return BAD;
        }
        deal.choose(now);
        return h == -1 ? deal.fewestGaps : deal.hourFor[h];
    }

    public int swaps() {
        deal.choose(now);
        if (deal.fewestGaps > 0) {
            return NONE;
        }
        return deal.fewestSwaps(now);
    }

    public int far(int what) {
        if (!isWithin(what, 0, 1)) {
            return BAD;
        }
        return what == 0 ? now.handingOver() : now.lengthOfRoad();
    }

    // No house's night touches another's, so a house that would miss needs its rest, and no other house does:
    // there is one smallest set at most, and nothing to choose by bits.
    public int lamps(int n, int what) {
        if (!isWithin(n, 1, MOST_AHEAD) || !isWithin(what, 0, 1)) {
            return BAD;
        }
        int resting = 0;
        for (int h = 0; h < now.houses; h++) {
            ahead.copyFrom(now);
            if (nextMissAhead(h, n) != NOWHERE) {
                ahead.copyFrom(now);
                ahead.giveRest(h);
                if (nextMissAhead(h, n) != NOWHERE) {
                    return NONE;
                }
                resting |= 1 << h;
            }
        }
        return what == 0 ? Integer.bitCount(resting) : resting;
    }

    // ---- what was seen

    public int seen(int n, int k, int is) {
        if (!isWithin(n, 0, MOST_SEEN_AHEAD) || !now.isHour(k) || !isWithin(is, 0, 1)) {
            return BAD;
        }
        if (sightings.filled >= MOST_SEEN) {
            return FULL;
        }
        sightings.add(n, k, is == 1);
        return sightings.filled;
    }

    public int forget() {
        int were = sightings.filled;
        sightings.clear();
        return were;
    }

    public int kinds(int h) {
        if (!now.isHouse(h)) {
            return BAD;
        }
        int bits = 0;
        for (int kind = PLAIN; kind <= GAY; kind++) {
            if (fitsAllSeen(h, kind, now.strengthOf[h])) {
                bits |= 1 << kind;
            }
        }
        return bits;
    }

    public int strengths(int h, int what) {
        if (!now.isHouse(h) || !isWithin(what, 0, 1)) {
            return BAD;
        }
        int howMany = 0;
        int least = NONE;
        for (int strength = MOST_STRENGTH; strength >= 0; strength--) {
            if (fitsAllSeen(h, now.kindOf[h], strength)) {
                howMany++;
                least = strength;
            }
        }
        return what == 0 ? howMany : least;
    }

    // ---- chances, winters

    public int likely(int h, int x, int part) {
        if (!now.isHouse(h) || !isWithin(x, 0, 9) || !isWithin(part, 0, 1)) {
            return BAD;
        }
        int asItIs = now.tiredOf[h];
        int moreTired = Math.min(asItIs + x, MOST_TIRED);
        int above = 0;
        for (int k = 0; k < now.houses; k++) {
            above += now.wouldKeep(h, k, asItIs) ? TENTHS - x : 0;
            above += now.wouldKeep(h, k, moreTired) ? x : 0;
        }
        int below = TENTHS * now.houses;
        int shared = largestDivisor(above, below);
        return part == 0 ? above / shared : below / shared;
    }

    public int winter(int z, int n, int what) {
        if (!isWithin(z, 0, MOST_WINTER) || !isWithin(n, 1, MOST_WINTER_NIGHTS) || !isWithin(what, 0, 2)) {
            return BAD;
        }
        ahead.copyFrom(now);
        int missed = 0;
        for (int night = 0; night < n; night++) {
            ahead.stir(drawFor(z, night));
            missed += ahead.letNightsPass(1);
        }
        if (what == 0) {
            return missed;
        }
        return what == 1 ? ahead.tiredTogether() : ahead.hourOf[0];
    }

    // ---- kept aside

    public int keep() {
        if (aside.filled >= MOST_KEPT) {
            return FULL;
        }
        aside.put(now);
        return aside.filled;
    }

    public int back() {
        if (!aside.takeInto(now)) {
            return NO;
        }
        undoable.clear();
        return aside.filled;
    }

    public int count(int what) {
        switch (what) {
            case 0: return now.houses;
            case 1: return now.night;
            case 2: return now.gapsSoFar;
            case 3: return now.tiredTogether();
            case 4: return sightings.filled;
            case 5: return undoable.filled;
            case 6: return aside.filled;
            case 7: return letters;
            default: return BAD;
        }
    }

    private static boolean isWithin(int number, int least, int most) {
        return number >= least && number <= most;
    }

    private static int largestDivisor(int above, int below) {
        for (int d = below; d > 1; d--) {
            if (above % d == 0 && below % d == 0) {
                return d;
            }
        }
        return 1;
    }

    private static int drawFor(int z, int night) {
        long x = 7919L * z + 6151L * night + 1;
        return (int) (x * x % 65521 / 2);
    }

    /** In which night from where 'ahead' stands the house misses, the others standing still; or NOWHERE. */
    private int nextMissAhead(int h, int nights) {
        for (int night = 1; night <= nights; night++) {
            if (!ahead.seeThrough(h)) {
                return night;
            }
        }
        return NOWHERE;
    }

    private boolean fitsAllSeen(int h, int kind, int strength) {
        ahead.copyFrom(now);
        ahead.kindOf[h] = kind;
        ahead.strengthOf[h] = strength;
        int last = sightings.lastNight();
        for (int night = 0; night <= last; night++) {
            if (!sightings.fit(ahead, night)) {
                return false;
            }
            ahead.letNightsPass(1);
        }
        return true;
    }

    /** What a text tells, up to its fault. */
    private static final class Plan {
        final int[] burdenOf = new int[MOST_HOUSES];
        final int[] kindOf = new int[MOST_HOUSES];
        final int[] strengthOf = new int[MOST_HOUSES];
        final int[] placeOf = new int[MOST_HOUSES];
        final int[] numbers = new int[3];
        int hours = 0;
        int houses = 0;
        int fault = NOWHERE;

        void read(int[] text, int length) {
            hours = 0;
            houses = 0;
            fault = NOWHERE;
            int at = 0;
            while (at < length) {
                int behind = readItem(text, length, at);
                if (behind <= at) {
                    fault = at;
                    return;
                }
                at = behind;
            }
        }

        boolean canBeLaid() {
            return fault == NOWHERE && hours >= 2 && hours == houses;
        }

        /** The place behind the item that begins there, or NOWHERE, if it is not so. */
        private int readItem(int[] text, int length, int at) {
            boolean isHour = text[at] == 'n';
            if (!isHour && text[at] != 'h') {
                return NOWHERE;
            }
            int wanted = isHour ? 1 : 3;
            int place = at + 1;
            for (int i = 0; i < wanted; i++) {
                int end = readNumber(text, length, place, i);
                int mark = i == wanted - 1 ? ';' : ',';
                if (end <= place || end >= length || text[end] != mark) {
                    return NOWHERE;
                }
                place = end + 1;
            }
            boolean isSo = isHour ? addHour() : addHouse();
            return isSo ? place : NOWHERE;
        }

        /** The place behind one or two figures, whose number is the i-th one then; where it began, if none is there. */
        private int readNumber(int[] text, int length, int begin, int i) {
            int number = 0;
            int place = begin;
            while (place < length && place < begin + 2 && isWithin(text[place], '0', '9')) {
                number = number * 10 + text[place] - '0';
                place++;
            }
            numbers[i] = number;
            return place;
        }

        private boolean addHour() {
            if (hours >= MOST_HOUSES || numbers[0] > MOST_BURDEN) {
                return false;
            }
            burdenOf[hours] = numbers[0];
            hours++;
            return true;
        }

        private boolean addHouse() {
            if (houses >= hours || numbers[0] > GAY || numbers[1] > MOST_STRENGTH || numbers[2] > MOST_PLACE) {
                return false;
            }
            kindOf[houses] = numbers[0];
            strengthOf[houses] = numbers[1];
            placeOf[houses] = numbers[2];
            houses++;
            return true;
        }
    }

    /** All that acts change: the valley in one night. */
    private static final class Valley {
        int houses = 0;
        int night = 0;
        int gapsSoFar = 0;
        final int[] burdenOf = new int[MOST_HOUSES];
        final int[] kindOf = new int[MOST_HOUSES];
        final int[] strengthOf = new int[MOST_HOUSES];
        final int[] placeOf = new int[MOST_HOUSES];
        final int[] tiredOf = new int[MOST_HOUSES];
        final int[] hourOf = new int[MOST_HOUSES];
        final int[] missedBy = new int[MOST_HOUSES];
        final int[] hadBy = new int[MOST_HOUSES * MOST_HOUSES];

        void settle(Plan plan) {
            houses = Math.min(plan.houses, MOST_HOUSES);
            night = 0;
            gapsSoFar = 0;
            for (int i = 0; i < MOST_HOUSES; i++) {
                burdenOf[i] = plan.burdenOf[i];
                kindOf[i] = plan.kindOf[i];
                strengthOf[i] = plan.strengthOf[i];
                placeOf[i] = plan.placeOf[i];
                tiredOf[i] = 0;
                hourOf[i] = i;
                missedBy[i] = 0;
            }
            for (int i = 0; i < hadBy.length; i++) {
                hadBy[i] = 0;
            }
        }

        void copyFrom(Valley other) {
            houses = other.houses;
            night = other.night;
            gapsSoFar = other.gapsSoFar;
            for (int i = 0; i < MOST_HOUSES; i++) {
                burdenOf[i] = other.burdenOf[i];
                kindOf[i] = other.kindOf[i];
                strengthOf[i] = other.strengthOf[i];
                placeOf[i] = other.placeOf[i];
                tiredOf[i] = other.tiredOf[i];
                hourOf[i] = other.hourOf[i];
                missedBy[i] = other.missedBy[i];
            }
            for (int i = 0; i < hadBy.length; i++) {
                hadBy[i] = other.hadBy[i];
            }
        }

        boolean isHouse(int h) {
            return h >= 0 && h < houses;
        }

        boolean isHour(int k) {
            return k >= 0 && k < houses;
        }

        int houseWith(int k) {
            for (int h = 0; h < houses; h++) {
                if (hourOf[h] == k) {
                    return h;
                }
            }
            return NOWHERE;
        }

        int timesHad(int h, int k) {
            return hadBy[h * MOST_HOUSES + k];
        }

        int heaviness(int h, int k) {
            int burden = burdenOf[k];
            switch (kindOf[h]) {
                case YOUNG: return 2 * burden;
                case WIDOWED: return k == hourHadMost(h) ? burden / 2 : burden;
                case GAY: return k == 0 || k == houses - 1 ? Math.max(burden - 3, 0) : burden;
                default: return burden;
            }
        }

        private int hourHadMost(int h) {
            int most = 0;
            int which = NOWHERE;
            for (int k = 0; k < houses; k++) {
                int times = hadBy[h * MOST_HOUSES + k];
                if (times > most) {
                    most = times;
                    which = k;
                }
            }
            return which;
        }

        boolean wouldKeep(int h, int k, int tired) {
            return heaviness(h, k) <= strengthOf[h] - tired;
        }

        boolean isGapAt(int k) {
            int h = houseWith(k);
            return h != NOWHERE && !wouldKeep(h, k, tiredOf[h]);
        }

        /** One house's night, the lot going round behind it: whether the hour is kept. */
        boolean seeThrough(int h) {
            int k = hourOf[h];
            if (!isHour(k)) {
                return true;
            }
            boolean kept = wouldKeep(h, k, tiredOf[h]);
            if (kept) {
                tiredOf[h] = Math.min(tiredOf[h] + 2, MOST_TIRED);
            } else {
                tiredOf[h] = Math.max(tiredOf[h] - 3, 0);
                missedBy[h]++;
            }
            hadBy[h * MOST_HOUSES + k]++;
            hourOf[h] = k + 1 < houses ? k + 1 : 0;
            return kept;
        }

        /** How many gaps there are in these nights. */
        int letNightsPass(int nights) {
            int gaps = 0;
            for (int i = 0; i < nights; i++) {
                for (int h = 0; h < houses; h++) {
                    gaps += seeThrough(h) ? 0 : 1;
                }
                night++;
            }
            gapsSoFar += gaps;
            return gaps;
        }

        void trade(int a, int b) {
            int hour = hourOf[a];
            hourOf[a] = hourOf[b];
            hourOf[b] = hour;
        }

        void giveRest(int h) {
            tiredOf[h] = Math.max(tiredOf[h] - 5, 0);
        }

        void setBurden(int k, int burden) {
            if (isHour(k)) {
                burdenOf[k] = burden;
            }
        }

        int tiredTogether() {
            int sum = 0;
            for (int h = 0; h < houses; h++) {
                sum += tiredOf[h];
            }
            return sum;
        }

        int handingOver() {
            int way = 0;
            for (int k = 1; k < houses; k++) {
                int from = houseWith(k - 1);
                int to = houseWith(k);
                if (from != NOWHERE && to != NOWHERE) {
                    way += Math.abs(placeOf[to] - placeOf[from]);
                }
            }
            return way;
        }

        // All houses stand along one road: whoever hands over from one end to the other goes least far.
        int lengthOfRoad() {
            int nearest = MOST_PLACE;
            int farthest = 0;
            for (int h = 0; h < houses; h++) {
                nearest = Math.min(nearest, placeOf[h]);
                farthest = Math.max(farthest, placeOf[h]);
            }
            return Math.max(farthest - nearest, 0);
        }

        /** What a winter's draw does ahead of a night. */
        void stir(int draw) {
            if (houses < 1 || draw < 0) {
                return;
            }
            int one = draw % houses;
            int other = draw / 8 % houses;
            switch (draw / 64 % 4) {
                case 0: trade(one, other); break;
                case 1: giveRest(one); break;
                case 2: setBurden(hourOf[one], draw / 256 % (MOST_BURDEN + 1)); break;
                default: break;
            }
        }
    }

    /** Valleys put by, the latest to be taken first; one too many pushes out the oldest. */
    private static final class Shelf {
        final Valley[] row;
        int filled = 0;

        Shelf(int places) {
            row = new Valley[Math.max(places, 1)];
            for (int i = 0; i < row.length; i++) {
                row[i] = new Valley();
            }
        }

        void clear() {
            filled = 0;
        }

        void put(Valley valley) {
            if (filled >= row.length) {
                dropOldest();
            }
            row[filled].copyFrom(valley);
            filled++;
        }

        private void dropOldest() {
            Valley oldest = row[0];
            for (int i = 1; i < row.length; i++) {
                row[i - 1] = row[i];
            }
            row[row.length - 1] = oldest;
            filled = row.length - 1;
        }

        boolean takeInto(Valley valley) {
            if (filled < 1) {
                return false;
            }
            filled--;
            valley.copyFrom(row[filled]);
            return true;
        }
    }

    /** What is seen: behind how many nights, at which hour, whether there is a gap. */
    private static final class Sightings {
        final int[] nights = new int[MOST_SEEN];
        final int[] hours = new int[MOST_SEEN];
        final boolean[] areGaps = new boolean[MOST_SEEN];
        int filled = 0;

        void clear() {
            filled = 0;
        }

        void add(int night, int hour, boolean isGap) {
            if (filled < MOST_SEEN) {
                nights[filled] = night;
                hours[filled] = hour;
                areGaps[filled] = isGap;
                filled++;
            }
        }

        int lastNight() {
            int last = NOWHERE;
            for (int i = 0; i < filled; i++) {
                last = Math.max(last, nights[i]);
            }
            return last;
        }

        /** Whether all that is seen of this night is so in the night that comes in the valley. */
        boolean fit(Valley valley, int night) {
            for (int i = 0; i < filled; i++) {
                if (nights[i] == night && valley.isGapAt(hours[i]) != areGaps[i]) {
                    return false;
                }
            }
            return true;
        }
    }

    /** The ways to deal out the hours for the night that comes. */
    private static final class Deal {
        // More than all hours kept can weigh together, so that one gap less is always the better way.
        private static final int GAP_PRICE = 1000;
        private static final int WORST = GAP_PRICE * (MOST_HOUSES + 1);

        final int[] price = new int[MOST_HOUSES * MOST_HOUSES];
        final int[] leastBehind = new int[1 << MOST_HOUSES];
        final int[] hourFor = new int[MOST_HOUSES];
        final int[] keepable = new int[MOST_HOUSES];
        final int[] lots = new int[MOST_HOUSES];
        int fewestGaps = 0;

        void choose(Valley valley) {
            weigh(valley);
            int houses = valley.houses;
            for (int dealt = (1 << houses) - 1; dealt >= 0; dealt--) {
                leastBehind[dealt] = leastOf(dealt, houses);
            }
            dealOut(houses);
        }

        private void weigh(Valley valley) {
            for (int h = 0; h < valley.houses; h++) {
                keepable[h] = 0;
                for (int k = 0; k < valley.houses; k++) {
                    boolean kept = valley.wouldKeep(h, k, valley.tiredOf[h]);
                    price[h * MOST_HOUSES + k] = kept ? -valley.heaviness(h, k) : GAP_PRICE;
                    keepable[h] |= kept ? 1 << k : 0;
                }
            }
        }

        /** The least price of the hours not yet dealt, if the first houses have those that are. */
        private int leastOf(int dealt, int houses) {
            int h = Integer.bitCount(dealt);
            if (h >= houses) {
                return 0;
            }
            int least = WORST;
            for (int k = 0; k < houses; k++) {
                if ((dealt >> k & 1) == 0) {
                    least = Math.min(least, priceWith(dealt, h, k));
                }
            }
            return least;
        }

        private int priceWith(int dealt, int h, int k) {
            return price[h * MOST_HOUSES + k] + leastBehind[dealt | 1 << k];
        }

        // The lowest hour that still leads to the least price makes the way the first one of its worth.
        private void dealOut(int houses) {
            int dealt = 0;
            fewestGaps = 0;
            for (int h = 0; h < houses; h++) {
                int k = lowestOfLeast(dealt, h, houses);
                hourFor[h] = k;
                fewestGaps += (keepable[h] >> k & 1) == 0 ? 1 : 0;
                dealt |= 1 << k;
            }
        }

        private int lowestOfLeast(int dealt, int h, int houses) {
            for (int k = 0; k < houses; k++) {
                if ((dealt >> k & 1) == 0 && priceWith(dealt, h, k) == leastBehind[dealt]) {
                    return k;
                }
            }
            return 0;
        }

        /** To be asked behind choose(), and only if a way without a gap was found. */
        int fewestSwaps(Valley valley) {
            for (int h = 0; h < valley.houses; h++) {
                lots[h] = valley.hourOf[h];
            }
            for (int most = 0; most < valley.houses; most++) {
                if (canBridge(lots, keepable, valley.houses, 0, most)) {
                    return most;
                }
            }
            return NONE;
        }

        // Each house in its turn stays as it is or swaps with one behind it: any way to deal is reached so,
        // and with as few swaps as it can be reached at all.
        private static boolean canBridge(int[] lots, int[] keepable, int houses, int h, int most) {
            if (h >= houses) {
                return true;
            }
            int last = most > 0 ? houses - 1 : h;
            for (int other = h; other <= last; other++) {
                exchange(lots, h, other);
                boolean bridged = (keepable[h] >> lots[h] & 1) == 1
                        && canBridge(lots, keepable, houses, h + 1, other == h ? most : most - 1);
                exchange(lots, h, other);
                if (bridged) {
                    return true;
                }
            }
            return false;
        }

        private static void exchange(int[] lots, int a, int b) {
            int lot = lots[a];
            lots[a] = lots[b];
            lots[b] = lot;
        }
    }
}
