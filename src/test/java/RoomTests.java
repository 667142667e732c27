import java.lang.management.ManagementFactory;

/** No call makes objects: all rows are made with the object, and a run of 512 calls needs no more room than they do. */
public final class RoomTests {
    private static final long MOST_BYTES_NEW = 40_000;
    private static final long MOST_BYTES_CALLS = 20_000;

    public static void main(String[] args) {
        com.sun.management.ThreadMXBean threads = (com.sun.management.ThreadMXBean) ManagementFactory.getThreadMXBean();
        long id = Thread.currentThread().getId();
        runAll(new NightLots());
        long begun = threads.getThreadAllocatedBytes(id);
        NightLots lots = new NightLots();
        long made = threads.getThreadAllocatedBytes(id);
        runAll(lots);
        long ended = threads.getThreadAllocatedBytes(id);
        boolean isDue = made - begun <= MOST_BYTES_NEW && ended - made <= MOST_BYTES_CALLS;
        System.out.println("room: " + (made - begun) + " bytes for an object, " + (ended - made) + " for a run of all calls: "
                + (isDue ? "as due" : "too much"));
        if (!isDue) {
            System.exit(1);
        }
    }

    private static int runAll(NightLots lots) {
        String text = "n4;n7;n12;n9;n5;n20;n0;h0,14,10;h1,9,22;h2,20,35;h3,12,41;h0,8,60;h2,40,99;h3,0,0;";
        int sum = 0;
        for (int i = 0; i < text.length(); i++) {
            sum += lots.write(text.charAt(i));
        }
        sum += lots.fault() + lots.lay();
        for (int i = 0; i < 14; i++) {
            int h = i % 7;
            sum += lots.pass(1 + i) + lots.swap(h, (h + 1) % 7) + lots.rest(h) + lots.burden(h, i) + lots.undo();
            sum += lots.house(h, 3) + lots.hour(h, 1) + lots.heavy(h, 2) + lots.had(h, 2);
            sum += lots.behind(40, h, 0) + lots.gaps() + lots.first(h) + lots.even(h) + lots.swaps();
            sum += lots.far(0) + lots.far(1) + lots.lamps(40, 1);
            sum += lots.seen(20, h, 1) + lots.kinds(h) + lots.strengths(h, 1) + lots.forget();
            sum += lots.likely(h, 5, 1) + lots.winter(i, 60, 1) + lots.keep() + lots.back() + lots.count(3);
        }
        return sum + lots.wipe();
    }
}
