import java.math.BigInteger;
import java.util.ArrayDeque;
import java.util.ArrayList;
import java.util.Collections;
import java.util.Comparator;
import java.util.Deque;
import java.util.HashSet;
import java.util.List;
import java.util.Random;
import java.util.Set;
import java.util.regex.Matcher;
import java.util.regex.Pattern;

/** Runs of calls drawn at random, each answer held against a model that tries out all ways, as the document tells them. */
public final class ModelRuns {
    private static final int RUNS = 1500;
    private static int wrong = 0;

    public static void main(String[] args) {
        for (int run = 0; run < RUNS && wrong < 20; run++) {
            new Run(run).go();
        }
        System.out.println(wrong == 0 ? "model: all answers are as due" : "model: " + wrong + " answers are not as due");
        if (wrong != 0) {
            System.exit(1);
        }
    }

    private static final class Run {
        private final int number;
        private final Random random;
        private final NightLots lots = new NightLots();
        private final Model model = new Model();
        private int calls = 0;

        Run(int number) {
            this.number = number;
            this.random = new Random(number * 31L + 7);
        }

        void go() {
            if (number % 8 != 0) {
                writeText();
                call("lay", lots.lay(), model.lay());
            }
            int length = 60 + random.nextInt(440);
            // The ways of trying out are dear with seven houses: fewer calls are made then.
            boolean dear = model.state.houses.size() > 5;
            int most = Math.min(dear ? 90 + calls : 512, calls + length);
            // A step makes five calls at most, an object has 512.
            while (calls <= most - 5) {
                if (random.nextInt(60) == 0 && calls + 130 < 512) {
                    call("wipe", lots.wipe(), model.wipe());
                    writeText();
                    call("fault", lots.fault(), model.fault());
                    call("lay", lots.lay(), model.lay());
                } else {
                    step();
                }
            }
        }

        private void writeText() {
            String text = random.nextInt(4) == 0 ? spoiled(drawnText()) : drawnText();
            for (char letter : text.toCharArray()) {
                call("write(" + (int) letter + ")", lots.write(letter), model.write(letter));
            }
        }

        private String drawnText() {
            int n = 2 + random.nextInt(6);
            int heaviest = random.nextBoolean() ? 20 : 8;
            List<String> items = new ArrayList<>();
            for (int i = 0; i < n; i++) {
                items.add("n" + random.nextInt(heaviest + 1) + ";");
            }
            int hoursAhead = n;
            for (int i = 0; i < n; i++) {
                String house = "h" + random.nextInt(4) + "," + (random.nextInt(3) == 0 ? 40 : random.nextInt(41))
                        + "," + random.nextInt(100) + ";";
                items.add(house);
            }
            if (random.nextInt(3) == 0 && hoursAhead > 2) {
                Collections.swap(items, n, n - 1 - random.nextInt(2));
            }
            return String.join("", items);
        }

        private String spoiled(String text) {
            StringBuilder spoiled = new StringBuilder(text);
            String letters = "nh,;0123456789 xN";
            int at = random.nextInt(text.length());
            char letter = letters.charAt(random.nextInt(letters.length()));
            switch (random.nextInt(4)) {
                case 0: spoiled.setCharAt(at, letter); break;
                case 1: spoiled.insert(at, letter); break;
                case 2: spoiled.deleteCharAt(at); break;
                default: spoiled.append("n3;");
            }
            return spoiled.toString();
        }

        private int house() {
            return random.nextInt(12) == 0 ? odd() : random.nextInt(model.state.houses.size());
        }

        private int odd() {
            int[] odd = {-1, -2, 7, 8, model.state.houses.size(), Integer.MAX_VALUE, Integer.MIN_VALUE, 41};
            return odd[random.nextInt(odd.length)];
        }

        private int number(int least, int most) {
            switch (random.nextInt(14)) {
                case 0: return least - 1;
                case 1: return most + 1;
                case 2: return least;
                case 3: return most;
                default: return least + random.nextInt(most - least + 1);
            }
        }

        private void step() {
            switch (random.nextInt(12)) {
                case 0: case 1: case 2: act(); break;
                case 3: case 4: look(); break;
                case 5: case 6: case 7: foresee(); break;
                case 8: case 9: see(); break;
                case 10: chance(); break;
                default: putAside();
            }
        }

        private void act() {
            int h = house();
            switch (random.nextInt(6)) {
                case 0: {
                    int n = random.nextInt(3) > 0 ? 1 + random.nextInt(3) : number(1, 20);
                    call("pass(" + n + ")", lots.pass(n), model.pass(n));
                    break;
                }
                case 1: {
                    int b = house();
                    call("swap(" + h + ", " + b + ")", lots.swap(h, b), model.swap(h, b));
                    break;
                }
                case 2: case 3:
                    call("rest(" + h + ")", lots.rest(h), model.rest(h));
                    break;
                case 4: {
                    int b = number(0, 20);
                    call("burden(" + h + ", " + b + ")", lots.burden(h, b), model.burden(h, b));
                    break;
                }
                default:
                    call("undo()", lots.undo(), model.undo());
            }
        }

        private void look() {
            int h = house();
            int k = house();
            int what = number(0, 7);
            call("house(" + h + ", " + what + ")", lots.house(h, what), model.house(h, what));
            call("hour(" + k + ", " + what % 3 + ")", lots.hour(k, what % 3), model.hour(k, what % 3));
            call("heavy(" + h + ", " + k + ")", lots.heavy(h, k), model.heavy(h, k));
            call("had(" + h + ", " + k + ")", lots.had(h, k), model.had(h, k));
            call("count(" + what + ")", lots.count(what), model.count(what));
        }

        private void foresee() {
            int h = house();
            int what = number(0, 1);
            switch (random.nextInt(7)) {
                case 0: {
                    int n = number(0, 40);
                    call("behind(" + n + ", " + h + ", " + what + ")", lots.behind(n, h, what), model.behind(n, h, what));
                    break;
                }
                case 1: call("gaps()", lots.gaps(), model.gaps()); break;
                case 2: call("first(" + h + ")", lots.first(h), model.first(h)); break;
                case 3: call("even(" + h + ")", lots.even(h), model.even(h)); break;
                case 4: call("swaps()", lots.swaps(), model.swaps()); break;
                case 5: call("far(" + what + ")", lots.far(what), model.far(what)); break;
                default: {
                    int n = random.nextBoolean() ? 1 + random.nextInt(3) : number(1, 40);
                    call("lamps(" + n + ", " + what + ")", lots.lamps(n, what), model.lamps(n, what));
                }
            }
        }

        private void see() {
            int h = house();
            int what = number(0, 1);
            switch (random.nextInt(7)) {
                case 0: case 1: {
                    int n = random.nextInt(3) > 0 ? random.nextInt(4) : number(0, 20);
                    int is = random.nextInt(3) > 0 ? model.gapIn(n, h, what) : what;
                    call("seen(" + n + ", " + h + ", " + is + ")", lots.seen(n, h, is), model.seen(n, h, is));
                    break;
                }
                case 2:
                    if (random.nextInt(3) == 0) {
                        call("forget()", lots.forget(), model.forget());
                    }
                    break;
                case 3: case 4: call("kinds(" + h + ")", lots.kinds(h), model.kinds(h)); break;
                default:
                    call("strengths(" + h + ", " + what + ")", lots.strengths(h, what), model.strengths(h, what));
            }
        }

        private void chance() {
            int h = house();
            int what = number(0, 2);
            int x = number(0, 9);
            call("likely(" + h + ", " + x + ", " + what + ")", lots.likely(h, x, what), model.likely(h, x, what));
            int z = number(0, 9999);
            int n = number(1, 60);
            call("winter(" + z + ", " + n + ", " + what + ")", lots.winter(z, n, what), model.winter(z, n, what));
        }

        private void putAside() {
            switch (random.nextInt(3)) {
                case 0: call("keep()", lots.keep(), model.keep()); break;
                case 1: call("back()", lots.back(), model.back()); break;
                default:
                    call("count(6)", lots.count(6), model.count(6));
                    call("count(2)", lots.count(2), model.count(2));
            }
        }

        private void call(String call, int got, int due) {
            calls++;
            if (got != due) {
                wrong++;
                System.out.println("model run " + number + ", call " + calls + ": " + call
                        + " answered " + got + ", due is " + due);
            }
        }
    }

    private static List<Integer> with(List<Integer> list, int index, int value) {
        List<Integer> changed = new ArrayList<>(list);
        changed.set(index, value);
        return changed;
    }

    private record House(int kind, int strength, int place, int tired, int hour, int missed, List<Integer> had) {
        int heavy(int k, List<Integer> burdens) {
            int burden = burdens.get(k);
            int most = Collections.max(had);
            if (kind == 1) {
                return burden + burden;
            }
            if (kind == 2 && most > 0 && had.indexOf(most) == k) {
                return Math.floorDiv(burden, 2);
            }
            if (kind == 3 && (k == 0 || k == burdens.size() - 1)) {
                return burden < 3 ? 0 : burden - 3;
            }
            return burden;
        }

        boolean misses(int k, List<Integer> burdens) {
            return heavy(k, burdens) + tired > strength;
        }

        House behindNight(List<Integer> burdens) {
            boolean misses = misses(hour, burdens);
            int then = misses ? (tired < 3 ? 0 : tired - 3) : (tired > 38 ? 40 : tired + 2);
            return new House(kind, strength, place, then, (hour + 1) % burdens.size(), missed + (misses ? 1 : 0),
                    with(had, hour, had.get(hour) + 1));
        }

        House rested() {
            return new House(kind, strength, place, tired < 5 ? 0 : tired - 5, hour, missed, had);
        }

        House at(int otherHour) {
            return new House(kind, strength, place, tired, otherHour, missed, had);
        }
    }

    private record State(List<House> houses, List<Integer> burdens, int night, int gapsSoFar) {
        State with(int h, House house) {
            List<House> changed = new ArrayList<>(houses);
            changed.set(h, house);
            return new State(changed, burdens, night, gapsSoFar);
        }

        State withBurden(int k, int burden) {
            return new State(houses, ModelRuns.with(burdens, k, burden), night, gapsSoFar);
        }

        State dealt(List<Integer> hours) {
            State state = this;
            for (int h = 0; h < hours.size(); h++) {
                state = state.with(h, houses.get(h).at(hours.get(h)));
            }
            return state;
        }

        List<Integer> hours() {
            List<Integer> hours = new ArrayList<>();
            houses.forEach(house -> hours.add(house.hour));
            return hours;
        }

        int houseWith(int k) {
            return hours().indexOf(k);
        }

        int gapBits() {
            int bits = 0;
            for (House house : houses) {
                bits += house.misses(house.hour, burdens) ? 1 << house.hour : 0;
            }
            return bits;
        }

        State behind(int nights) {
            State state = this;
            for (int i = 0; i < nights; i++) {
                List<House> then = new ArrayList<>();
                for (House house : state.houses) {
                    then.add(house.behindNight(state.burdens));
                }
                state = new State(then, state.burdens, state.night + 1,
                        state.gapsSoFar + Integer.bitCount(state.gapBits()));
            }
            return state;
        }

        int way() {
            int way = 0;
            for (int k = 0; k + 1 < houses.size(); k++) {
                way += Math.abs(houses.get(houseWith(k)).place - houses.get(houseWith(k + 1)).place);
            }
            return way;
        }

        int tired() {
            return houses.stream().mapToInt(House::tired).sum();
        }
    }

    private static List<List<Integer>> ways(int n) {
        List<List<Integer>> ways = new ArrayList<>();
        addWays(new ArrayList<>(), n, ways);
        return ways;
    }

    private static void addWays(List<Integer> begun, int n, List<List<Integer>> ways) {
        if (begun.size() == n) {
            ways.add(new ArrayList<>(begun));
        }
        for (int k = 0; k < n; k++) {
            if (!begun.contains(k)) {
                begun.add(k);
                addWays(begun, n, ways);
                begun.remove(begun.size() - 1);
            }
        }
    }

    /** The object as the document tells it. */
    private static final class Model {
        private static final int BAD = -1, NO = -2, FULL = -3, NONE = -4;
        private static final Pattern HOUR = Pattern.compile("n(\\d{1,2});");
        private static final Pattern HOUSE = Pattern.compile("h(\\d{1,2}),(\\d{1,2}),(\\d{1,2});");

        private State state;
        private final StringBuilder text = new StringBuilder();
        private final Deque<State> undoable = new ArrayDeque<>();
        private final Deque<State> kept = new ArrayDeque<>();
        private final List<int[]> sightings = new ArrayList<>();

        Model() {
            text.append("n4;n7;n12;n9;n5;h0,14,10;h1,9,22;h2,20,35;h3,12,41;h0,8,60;");
            lay();
            text.setLength(0);
        }

        private boolean isHouse(int h) {
            return h >= 0 && h < state.houses.size();
        }

        int write(int letter) {
            if (letter < 32 || letter > 126) {
                return BAD;
            }
            if (text.length() == 200) {
                return FULL;
            }
            text.append((char) letter);
            return text.length();
        }

        int wipe() {
            int were = text.length();
            text.setLength(0);
            return were;
        }

        private int parse(List<Integer> burdens, List<House> houses) {
            Matcher hour = HOUR.matcher(text);
            Matcher house = HOUSE.matcher(text);
            int at = 0;
            while (at < text.length()) {
                hour.region(at, text.length());
                house.region(at, text.length());
                if (hour.lookingAt()) {
                    int burden = Integer.parseInt(hour.group(1));
                    if (burden > 20 || burdens.size() == 7) {
                        return at;
                    }
                    burdens.add(burden);
                    at = hour.end();
                } else if (house.lookingAt()) {
                    int kind = Integer.parseInt(house.group(1));
                    int strength = Integer.parseInt(house.group(2));
                    if (kind > 3 || strength > 40 || houses.size() == burdens.size()) {
                        return at;
                    }
                    houses.add(new House(kind, strength, Integer.parseInt(house.group(3)), 0, houses.size(), 0, null));
                    at = house.end();
                } else {
                    return at;
                }
            }
            return NONE;
        }

        int fault() {
            return parse(new ArrayList<>(), new ArrayList<>());
        }

        int lay() {
            List<Integer> burdens = new ArrayList<>();
            List<House> read = new ArrayList<>();
            if (parse(burdens, read) != NONE || burdens.size() < 2 || burdens.size() != read.size()) {
                return NO;
            }
            List<House> houses = new ArrayList<>();
            for (House house : read) {
                houses.add(new House(house.kind, house.strength, house.place, 0, house.hour, 0,
                        Collections.nCopies(burdens.size(), 0)));
            }
            state = new State(houses, burdens, 0, 0);
            undoable.clear();
            kept.clear();
            sightings.clear();
            return houses.size();
        }

        int house(int h, int what) {
            if (!isHouse(h) || what < 0 || what > 5) {
                return BAD;
            }
            House house = state.houses.get(h);
            return List.of(house.kind, house.strength, house.place, house.tired, house.hour, house.missed).get(what);
        }

        int hour(int k, int what) {
            if (!isHouse(k) || what < 0 || what > 1) {
                return BAD;
            }
            return what == 0 ? state.burdens.get(k) : state.houseWith(k);
        }

        int heavy(int h, int k) {
            return isHouse(h) && isHouse(k) ? state.houses.get(h).heavy(k, state.burdens) : BAD;
        }

        int had(int h, int k) {
            return isHouse(h) && isHouse(k) ? state.houses.get(h).had.get(k) : BAD;
        }

        private void become(State then) {
            undoable.addLast(state);
            while (undoable.size() > 8) {
                undoable.removeFirst();
            }
            state = then;
        }

        int pass(int n) {
            if (n < 1 || n > 20) {
                return BAD;
            }
            if (state.night + n > 999) {
                return NO;
            }
            int were = state.gapsSoFar;
            become(state.behind(n));
            return state.gapsSoFar - were;
        }

        int swap(int a, int b) {
            if (!isHouse(a) || !isHouse(b) || a == b) {
                return BAD;
            }
            List<Integer> hours = state.hours();
            Collections.swap(hours, a, b);
            become(state.dealt(hours));
            return hours.get(a);
        }

        int rest(int h) {
            if (!isHouse(h)) {
                return BAD;
            }
            if (state.houses.get(h).tired == 0) {
                return NO;
            }
            become(state.with(h, state.houses.get(h).rested()));
            return state.houses.get(h).tired;
        }

        int burden(int k, int b) {
            if (!isHouse(k) || b < 0 || b > 20) {
                return BAD;
            }
            int was = state.burdens.get(k);
            if (was == b) {
                return NO;
            }
            become(state.withBurden(k, b));
            return was;
        }

        int undo() {
            if (undoable.isEmpty()) {
                return NO;
            }
            state = undoable.removeLast();
            return undoable.size();
        }

        int behind(int n, int h, int what) {
            if (n < 0 || n > 40 || !isHouse(h) || what < 0 || what > 1) {
                return BAD;
            }
            House house = state.behind(n).houses.get(h);
            return what == 0 ? house.tired : house.hour;
        }

        int gaps() {
            return state.gapBits();
        }

        int first(int h) {
            if (!isHouse(h)) {
                return BAD;
            }
            for (int night = 1; night <= 40; night++) {
                if (state.behind(night).houses.get(h).missed > state.houses.get(h).missed) {
                    return night;
                }
            }
            return NONE;
        }

        int even(int h) {
            if (h != -1 && !isHouse(h)) {
                return BAD;
            }
            List<Integer> best = null;
            int fewest = 0;
            int heaviest = 0;
            for (List<Integer> way : ways(state.houses.size())) {
                int gaps = 0;
                int heavy = 0;
                for (int i = 0; i < way.size(); i++) {
                    House house = state.houses.get(i);
                    boolean misses = house.misses(way.get(i), state.burdens);
                    gaps += misses ? 1 : 0;
                    heavy += misses ? 0 : house.heavy(way.get(i), state.burdens);
                }
                if (best == null || gaps < fewest || gaps == fewest && heavy > heaviest) {
                    best = way;
                    fewest = gaps;
                    heaviest = heavy;
                }
            }
            return h == -1 ? fewest : best.get(h);
        }

        private boolean hasGap(List<Integer> hours) {
            for (int h = 0; h < hours.size(); h++) {
                if (state.houses.get(h).misses(hours.get(h), state.burdens)) {
                    return true;
                }
            }
            return false;
        }

        int swaps() {
            Set<List<Integer>> met = new HashSet<>(Set.of(state.hours()));
            List<List<Integer>> level = List.of(state.hours());
            for (int swaps = 0; !level.isEmpty(); swaps++) {
                List<List<Integer>> next = new ArrayList<>();
                for (List<Integer> hours : level) {
                    if (!hasGap(hours)) {
                        return swaps;
                    }
                    addSwapped(hours, met, next);
                }
                level = next;
            }
            return NONE;
        }

        private void addSwapped(List<Integer> hours, Set<List<Integer>> met, List<List<Integer>> next) {
            for (int a = 0; a < hours.size(); a++) {
                for (int b = a + 1; b < hours.size(); b++) {
                    List<Integer> swapped = new ArrayList<>(hours);
                    Collections.swap(swapped, a, b);
                    if (met.add(swapped)) {
                        next.add(swapped);
                    }
                }
            }
        }

        int far(int what) {
            if (what < 0 || what > 1) {
                return BAD;
            }
            if (what == 0) {
                return state.way();
            }
            int least = Integer.MAX_VALUE;
            for (List<Integer> order : ways(state.houses.size())) {
                int way = 0;
                for (int i = 1; i < order.size(); i++) {
                    way += Math.abs(state.houses.get(order.get(i)).place - state.houses.get(order.get(i - 1)).place);
                }
                least = Math.min(least, way);
            }
            return least;
        }

        int lamps(int n, int what) {
            if (n < 1 || n > 40 || what < 0 || what > 1) {
                return BAD;
            }
            List<Integer> sets = new ArrayList<>();
            for (int bits = 0; bits < 1 << state.houses.size(); bits++) {
                sets.add(bits);
            }
            sets.sort(Comparator.<Integer>comparingInt(Integer::bitCount).thenComparing(bits -> bits));
            for (int bits : sets) {
                State then = state;
                for (int h = 0; h < state.houses.size(); h++) {
                    then = (bits >> h) % 2 == 1 ? then.with(h, state.houses.get(h).rested()) : then;
                }
                if (then.behind(n).gapsSoFar == state.gapsSoFar) {
                    return what == 0 ? Integer.bitCount(bits) : bits;
                }
            }
            return NONE;
        }

        int gapIn(int n, int k, int otherwise) {
            return n >= 0 && n < 21 && isHouse(k) && otherwise >= 0 && otherwise < 2
                    ? state.behind(n).gapBits() >> k & 1 : otherwise;
        }

        int seen(int n, int k, int is) {
            if (n < 0 || n > 20 || !isHouse(k) || is < 0 || is > 1) {
                return BAD;
            }
            if (sightings.size() == 6) {
                return FULL;
            }
            sightings.add(new int[] {n, k, is});
            return sightings.size();
        }

        int forget() {
            int were = sightings.size();
            sightings.clear();
            return were;
        }

        private boolean fits(int h, int kind, int strength) {
            House own = state.houses.get(h);
            State other = state.with(h,
                    new House(kind, strength, own.place, own.tired, own.hour, own.missed, own.had));
            return sightings.stream().allMatch(s -> (other.behind(s[0]).gapBits() >> s[1] & 1) == s[2]);
        }

        int kinds(int h) {
            if (!isHouse(h)) {
                return BAD;
            }
            int bits = 0;
            for (int kind = 0; kind < 4; kind++) {
                bits += fits(h, kind, state.houses.get(h).strength) ? 1 << kind : 0;
            }
            return bits;
        }

        int strengths(int h, int what) {
            if (!isHouse(h) || what < 0 || what > 1) {
                return BAD;
            }
            List<Integer> fitting = new ArrayList<>();
            for (int strength = 0; strength <= 40; strength++) {
                if (fits(h, state.houses.get(h).kind, strength)) {
                    fitting.add(strength);
                }
            }
            if (what == 0) {
                return fitting.size();
            }
            return fitting.isEmpty() ? NONE : fitting.get(0);
        }

        int likely(int h, int x, int part) {
            if (!isHouse(h) || x < 0 || x > 9 || part < 0 || part > 1) {
                return BAD;
            }
            House own = state.houses.get(h);
            House tired = new House(own.kind, own.strength, own.place, Math.min(40, own.tired + x), own.hour,
                    own.missed, own.had);
            int good = 0;
            int all = 0;
            for (int k = 0; k < state.burdens.size(); k++) {
                for (int tenth = 0; tenth < 10; tenth++) {
                    House drawn = tenth < x ? tired : own;
                    good += drawn.misses(k, state.burdens) ? 0 : 1;
                    all++;
                }
            }
            int shared = BigInteger.valueOf(good).gcd(BigInteger.valueOf(all)).intValue();
            return part == 0 ? good / shared : all / shared;
        }

        int winter(int z, int n, int what) {
            if (z < 0 || z > 9999 || n < 1 || n > 60 || what < 0 || what > 2) {
                return BAD;
            }
            State then = state;
            int houses = state.houses.size();
            for (int night = 0; night < n; night++) {
                BigInteger x = BigInteger.valueOf(7919L * z + 6151L * night + 1);
                int draw = x.multiply(x).mod(BigInteger.valueOf(65521)).intValue() >> 1;
                int a = draw % houses;
                int b = (draw >> 3) % houses;
                int deed = (draw >> 6) % 4;
                if (deed == 0) {
                    List<Integer> hours = then.hours();
                    Collections.swap(hours, a, b);
                    then = then.dealt(hours);
                } else if (deed == 1) {
                    then = then.with(a, then.houses.get(a).rested());
                } else if (deed == 2) {
                    then = then.withBurden(then.houses.get(a).hour, (draw >> 8) % 21);
                }
                then = then.behind(1);
            }
            return List.of(then.gapsSoFar - state.gapsSoFar, then.tired(), then.houses.get(0).hour).get(what);
        }

        int keep() {
            if (kept.size() == 2) {
                return FULL;
            }
            kept.addLast(state);
            return kept.size();
        }

        int back() {
            if (kept.isEmpty()) {
                return NO;
            }
            state = kept.removeLast();
            undoable.clear();
            return kept.size();
        }

        int count(int what) {
            switch (what) {
                case 0: return state.houses.size();
                case 1: return state.night;
                case 2: return state.gapsSoFar;
                case 3: return state.tired();
                case 4: return sightings.size();
                case 5: return undoable.size();
                case 6: return kept.size();
                case 7: return text.length();
                default: return BAD;
            }
        }
    }
}
