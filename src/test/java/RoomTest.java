import java.lang.management.ManagementFactory;

/** All calls of a run live in one room: an object takes its rows when it is made, and its calls make nothing. */
public final class RoomTest {
    private static final com.sun.management.ThreadMXBean BEAN =
            (com.sun.management.ThreadMXBean) ManagementFactory.getThreadMXBean();

    private static long made() {
        return BEAN.getThreadAllocatedBytes(Thread.currentThread().getId());
    }

    /** Every call at its dearest. */
    private static int all(NoonOnABarrow x, int i) {
        int sum = x.house(i % 10) + x.pusher(1 + i % 9) + x.push(i % 8, i % 4) + x.minute(1 + i % 60) + x.years(i, 30);
        sum += x.undo() + x.of(i % 8, i % 5) + x.two(i % 8, 1, i % 3) + x.barrow(i % 6) + x.hard(0, i % 8, 0);
        sum += x.book(i % 30, 1) + x.foretold(60, i % 8, i % 3) + x.arrives() + x.want(i % 8, 12) + x.fitting();
        sum += x.route(i % 9 - 1) + x.least(i % 8, 0, i % 4 - 2) + x.winner() + x.agenda(76543210, 8) + x.fair(9);
        sum += x.feel(i % 8, i % 99) + x.lost() + x.yard() + x.thieves() + x.watch(3, i % 10) + x.image() + x.back();
        sum += x.about(i % 10) + x.fault(0) + x.played(0) + x.feed(i, i, i, i, i) + x.end(i % 20) + x.text();
        boolean so = x.lane(i % 8, i % 7, i % 10) ^ x.tip() ^ x.mend() ^ x.by(i % 5 - 1) ^ x.weight(i % 8, 3);
        return so ? sum + 1 : sum;
    }

    public static void main(String[] args) {
        made();
        // The first one also takes what the machine needs to load its classes.
        NoonOnABarrow x = new NoonOnABarrow();
        long ahead = made();
        x = new NoonOnABarrow();
        long object = made() - ahead;
        // Some 13,000 fields and elements of four bytes each, and what the machine adds to each object.
        Due.so("an object takes " + object + " bytes", object > 0 && object < 80000, true);
        Due.is("text", Due.text(x, "earns if far here to 3<4 or hour>14 then pale*2 else -minute end;hard lane*here+1;warm noon*9;"
                + "house 1;minute 9;"), 0);
        int sum = 0;
        for (int i = 0; i < 200; i++) {
            sum += all(x, i);
        }
        ahead = made();
        for (int i = 0; i < 400; i++) {
            sum += all(x, i);
        }
        long calls = made() - ahead;
        Due.so("15,200 calls made " + calls + " bytes (" + sum + ")", calls < 4096, true);
        Due.close();
    }
}
