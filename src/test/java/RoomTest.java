import java.lang.management.ManagementFactory;

/** All calls of a run share one room, so that a market makes all its rows as it is made, and nothing later. */
public final class RoomTest {
    private static final long MOST_BYTES_OF_A_MARKET = 20_000;
    private static final int CALLS = 512;
    private static final long LEAST_BYTES_OF_AN_OBJECT = 16;
    private static final com.sun.management.ThreadMXBean BEAN =
            (com.sun.management.ThreadMXBean) ManagementFactory.getThreadMXBean();
    private static final long THREAD = Thread.currentThread().getId();

    public static void main(String[] args) {
        // Once for the classes that are loaded on the way.
        bytesOfCalls(fullMarket());
        bytesOfMaking();
        Check check = new Check();
        check.title("room");
        long made = bytesOfMaking();
        long called = bytesOfCalls(fullMarket());
        System.out.println(made + " bytes for a market, " + called + " for " + CALLS + " of its dearest calls");
        check.tell(true, made < MOST_BYTES_OF_A_MARKET);
        check.tell(true, called < CALLS * LEAST_BYTES_OF_AN_OBJECT);
        check.end();
    }

    private static long bytesSoFar() {
        return BEAN.getThreadAllocatedBytes(THREAD);
    }

    private static long bytesOfMaking() {
        long before = bytesSoFar();
        PivotalMarket market = new PivotalMarket();
        long after = bytesSoFar();
        return market.many(0) == 0 ? after - before : 0;
    }

    private static long bytesOfCalls(PivotalMarket market) {
        market.digest();
        long before = bytesSoFar();
        long sum = 0;
        for (int i = 0; i < CALLS; i++) {
            sum += market.digest();
            sum += market.let(i % 5, i % 7 < 5);
            sum += market.bid(i % 5, i % 20);
        }
        long after = bytesSoFar();
        return sum == 0 ? -1 : after - before;
    }

    private static PivotalMarket fullMarket() {
        PivotalMarket m = new PivotalMarket();
        for (int good = 0; good < 4; good++) {
            m.good(good);
        }
        for (int node = 0; node < 15; node++) {
            m.node(0, node + 1, 99 - 6 * node, 0);
        }
        for (int node = 15; node < 30; node++) {
            m.node(1 + node % 3, node - 15, node - 1, 0);
        }
        for (int party = 0; party < 5; party++) {
            m.party();
            m.bid(party, 15 + 3 * party);
        }
        for (int k = 0; k < 8; k++) {
            m.seal(k % 3);
            m.ballot(k % 4, (k + 1) % 4, (k + 3) % 4);
        }
        m.open(1);
        m.rise(40);
        return m;
    }
}
