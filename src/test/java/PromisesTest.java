/** Each promise of the document by examples worked out by hand: ordinary inputs, edges, wrong inputs. */
public final class PromisesTest {
    private static final int LOW = Integer.MIN_VALUE;
    private static final int HIGH = Integer.MAX_VALUE;

    private final Check check = new Check();

    public static void main(String[] args) {
        PromisesTest all = new PromisesTest();
        all.setUpPromises();
        all.auctionPromises();
        all.risingPromises();
        all.sharingPromises();
        all.votePromises();
        all.bookPromises();
        all.check.end();
    }

    private void setUpPromises() {
        promise1();
        promise2();
        promise3();
        promise4();
        promise4Amounts();
        promise5();
        promise6();
        promise7();
        promise8();
    }

    private void auctionPromises() {
        promise9();
        promise10();
        promise11();
        promise12();
        promise13();
        promise14();
    }

    private void risingPromises() {
        promise15();
        promise16();
        promise16Limits();
        promise16Ends();
        promise17();
        promise18();
    }

    private void sharingPromises() {
        promise19();
        promise19Rules();
        promise20();
        promise21();
        promise22();
        promise23();
    }

    private void votePromises() {
        promise24();
        promise25();
        promise26();
        promise27();
        promise28();
    }

    private void bookPromises() {
        promise29();
        promise30();
        promise31();
        promise32();
        promise33();
    }

    private void promise1() {
        check.title("1 A new object");
        PivotalMarket m = new PivotalMarket();
        for (int what = 0; what <= 8; what++) {
            int w = what;
            check.is(0, () -> m.many(w));
        }
        check.is(0, () -> m.worth(0));
        check.is(-1, () -> m.blocks(0));
        check.index(() -> m.won(0));
        check.index(() -> m.tag(0));
        check.state(() -> m.rise(1));
    }

    private void promise2() {
        check.title("2 good");
        PivotalMarket m = new PivotalMarket();
        check.argument(() -> m.good(-1));
        check.argument(() -> m.good(51));
        check.argument(() -> m.good(LOW));
        check.argument(() -> m.good(HIGH));
        check.is(0, () -> m.good(0));
        check.is(1, () -> m.good(50));
        check.is(50, () -> m.worth(0));
        check.is(2, () -> m.good(3));
        check.is(3, () -> m.good(4));
        check.state(() -> m.good(5));
        check.argument(() -> m.good(51));
        check.is(4, () -> m.many(0));
        PivotalMarket n = Markets.withGoods(1);
        n.node(0, 1, 1, 0);
        check.state(() -> n.good(1));
        check.argument(() -> n.good(-1));
        check.is(1, () -> n.many(0));
    }

    private void promise3() {
        check.title("3 party");
        PivotalMarket m = new PivotalMarket();
        for (int i = 0; i < 5; i++) {
            check.is(i, m::party);
        }
        check.state(m::party);
        check.is(5, () -> m.many(1));
        check.is(5, () -> m.many(3));
        check.is(-1, () -> m.bid(4, -1));
    }

    private void promise4() {
        check.title("4 node");
        PivotalMarket none = new PivotalMarket();
        check.argument(() -> none.node(0, 1, 1, 0));
        check.argument(() -> none.node(0, 0, 1, 0));
        PivotalMarket m = Markets.withGoods(0, 0);
        check.argument(() -> m.node(0, 4, 1, 0));
        check.argument(() -> m.node(0, -1, 1, 0));
        check.argument(() -> m.node(0, 3, 0, 0));
        check.argument(() -> m.node(0, 3, 100, 0));
        check.argument(() -> m.node(0, 3, 9, 1));
        check.argument(() -> m.node(0, 3, 9, -1));
        for (int kind = 1; kind <= 4; kind++) {
            int k = kind;
            check.argument(() -> m.node(k, 0, 0, 0));
            check.argument(() -> m.node(k, -1, -1, 0));
        }
        check.is(0, () -> m.many(2));
        check.is(0, () -> m.node(0, 1, 99, 0));
        check.argument(() -> m.node(-1, 0, 0, 0));
        check.argument(() -> m.node(5, 0, 0, 0));
        check.argument(() -> m.node(LOW, 0, 0, 0));
        check.argument(() -> m.node(HIGH, 0, 0, 0));
        check.argument(() -> m.node(1, 0, 1, 0));
        check.argument(() -> m.node(2, 1, 0, 0));
        check.argument(() -> m.node(1, 0, 0, 1));
        check.argument(() -> m.node(2, 0, 0, 1));
        check.argument(() -> m.node(3, 0, 0, -1));
        check.argument(() -> m.node(3, 0, 0, 100));
        check.argument(() -> m.node(4, 0, -1, 0));
        check.argument(() -> m.node(4, 0, 201, 0));
        check.argument(() -> m.node(4, 0, 200, 1));
        check.is(1, () -> m.node(4, 0, 200, 0));
        check.is(2, () -> m.node(4, 0, 0, 0));
        check.is(3, () -> m.node(3, 0, 1, 99));
        check.is(4, () -> m.node(3, 0, 0, 0));
        for (int i = 5; i < 30; i++) {
            int due = i;
            check.is(due, () -> m.node(1, due - 1, 0, 0));
        }
        check.state(() -> m.node(0, 1, 1, 0));
        check.argument(() -> m.node(0, 1, 1, 1));
        check.is(30, () -> m.many(2));
    }

    /** What the nodes tell, seen by value(). */
    private void promise4Amounts() {
        check.title("4 node, amounts");
        PivotalMarket m = Markets.withGoods(0, 0, 0);
        m.party();
        int first = m.node(0, 1, 10, 0);
        int second = m.node(0, 2, 7, 0);
        int two = m.node(0, 3, 15, 0);
        values(m, two, 0, 0, 0, 15, 0, 0, 0, 15);
        values(m, m.node(1, first, second, 0), 0, 10, 7, 10, 0, 10, 7, 10);
        values(m, m.node(2, first, second, 0), 0, 10, 7, 17, 0, 10, 7, 17);
        values(m, m.node(2, first, first, 0), 0, 10, 0, 10, 0, 10, 0, 10);
        values(m, m.node(2, two, first, 0), 0, 10, 0, 15, 0, 10, 0, 15);
        int both = m.node(3, first, second, 5);
        values(m, both, 0, 10, 7, 22, 0, 10, 7, 22);
        values(m, m.node(3, first, second, 0), 0, 10, 7, 17, 0, 10, 7, 17);
        values(m, m.node(3, first, two, 99), 0, 10, 0, 15, 0, 10, 0, 15);
        values(m, m.node(4, both, 9, 0), 0, 9, 7, 9, 0, 9, 7, 9);
        values(m, m.node(4, both, 0, 0), 0, 0, 0, 0, 0, 0, 0, 0);
        int third = m.node(0, 4, 1, 0);
        values(m, m.node(2, both, third, 0), 0, 10, 7, 22, 1, 11, 8, 23);
        values(m, m.node(3, first, third, 5), 0, 10, 0, 10, 1, 16, 1, 16);
        values(m, m.node(3, third, first, 5), 0, 10, 0, 10, 1, 16, 1, 16);
        // The bonus can be had by another part than that with the greatest sum.
        int any = m.node(1, third, m.node(0, 1, 8, 0), 0);
        values(m, m.node(3, any, first, 9), 0, 10, 0, 10, 1, 20, 1, 20);
    }

    private void values(PivotalMarket m, int node, int... due) {
        m.bid(0, node);
        for (int set = 0; set < due.length; set++) {
            int s = set;
            check.is(due[set], () -> m.value(0, s));
        }
    }

    private void promise5() {
        check.title("5 bid");
        PivotalMarket m = Markets.withGoods(0);
        m.party();
        m.node(0, 1, 5, 0);
        m.node(0, 1, 6, 0);
        check.index(() -> m.bid(1, 0));
        check.index(() -> m.bid(-1, 0));
        check.index(() -> m.bid(1, 9));
        check.argument(() -> m.bid(0, 2));
        check.argument(() -> m.bid(0, -2));
        check.is(-1, () -> m.bid(0, 1));
        check.is(6, () -> m.value(0, 1));
        check.is(1, () -> m.bid(0, 0));
        check.is(5, () -> m.value(0, 1));
        check.is(5, () -> m.worth(1));
        check.is(0, () -> m.bid(0, -1));
        check.is(0, () -> m.value(0, 1));
        check.is(-1, () -> m.bid(0, -1));
    }

    private void promise6() {
        check.title("6 let");
        PivotalMarket m = new PivotalMarket();
        check.index(() -> m.let(0, true));
        m.party();
        m.party();
        check.index(() -> m.let(2, true));
        check.index(() -> m.let(-1, false));
        check.is(2, () -> m.let(1, true));
        check.is(1, () -> m.let(1, false));
        check.is(1, () -> m.let(1, false));
        check.is(0, () -> m.let(0, false));
        check.is(0, () -> m.many(3));
        check.is(1, () -> m.let(1, true));
        check.is(2, m::party);
        check.is(2, () -> m.many(3));
    }

    private void promise7() {
        check.title("7 rank");
        PivotalMarket m = Markets.withGoods(0, 0);
        m.party();
        m.party();
        m.party();
        check.index(() -> m.rank(2, 0, 0));
        check.index(() -> m.rank(-1, 0, 0));
        check.index(() -> m.rank(0, 3, 0));
        check.index(() -> m.rank(0, -1, 99));
        check.argument(() -> m.rank(0, 0, -1));
        check.argument(() -> m.rank(0, 0, 10));
        check.is(0, () -> m.rank(1, 2, 9));
        check.is(9, () -> m.rank(1, 2, 4));
        check.is(4, () -> m.rank(1, 2, 0));
        check.is(0, () -> m.rank(1, 2, 0));
        check.is(0, () -> m.rank(1, 1, 1));
    }

    private void promise8() {
        check.title("8 value");
        PivotalMarket m = Markets.withGoods(4, 4);
        m.party();
        m.party();
        m.bid(1, m.node(0, 2, 12, 0));
        check.index(() -> m.value(2, 0));
        check.index(() -> m.value(-1, 9));
        check.argument(() -> m.value(0, 4));
        check.argument(() -> m.value(0, -1));
        check.is(0, () -> m.value(0, 3));
        check.is(0, () -> m.value(1, 0));
        check.is(0, () -> m.value(1, 1));
        check.is(12, () -> m.value(1, 2));
        check.is(12, () -> m.value(1, 3));
        m.let(1, false);
        check.is(12, () -> m.value(1, 3));
    }

    private void promise9() {
        check.title("9 worth");
        PivotalMarket m = Markets.three();
        check.is(7, () -> m.worth(0));
        check.is(20, () -> m.worth(1));
        check.is(13, () -> m.worth(2));
        check.is(11, () -> m.worth(4));
        check.is(17, () -> m.worth(6));
        check.is(20, () -> m.worth(7));
        check.argument(() -> m.worth(8));
        check.argument(() -> m.worth(-1));
        m.let(0, false);
        check.is(20, () -> m.worth(7));
        check.is(20, () -> m.worth(1));
    }

    private void promise10() {
        check.title("10 won");
        PivotalMarket m = Markets.three();
        check.is(3, () -> m.won(0));
        check.is(0, () -> m.won(1));
        check.index(() -> m.won(3));
        check.index(() -> m.won(-1));
        m.let(0, false);
        check.is(0, () -> m.won(0));
        check.is(1, () -> m.won(1));
        check.is(2, () -> m.won(2));
        // As worthy ways: that with the smallest set for the party with the smallest number.
        PivotalMarket n = Markets.withGoods(0, 0);
        n.party();
        n.party();
        int one = n.node(0, 1, 5, 0);
        int two = n.node(0, 2, 5, 0);
        int either = n.node(1, one, two, 0);
        n.bid(0, either);
        n.bid(1, either);
        check.is(1, () -> n.won(0));
        check.is(2, () -> n.won(1));
        n.bid(1, one);
        check.is(2, () -> n.won(0));
        check.is(1, () -> n.won(1));
        n.bid(0, one);
        check.is(0, () -> n.won(0));
        check.is(1, () -> n.won(1));
        // A good without worth to it stays with the seller, and one that is worth just its reserve, too.
        PivotalMarket r = Markets.withGoods(5, 0);
        r.party();
        r.bid(0, r.node(0, 1, 5, 0));
        check.is(0, () -> r.won(0));
        r.bid(0, r.node(0, 1, 6, 0));
        check.is(1, () -> r.won(0));
    }

    private void promise11() {
        check.title("11 price");
        PivotalMarket m = Markets.three();
        check.is(20, () -> m.price(0, 0));
        check.is(17, () -> m.price(0, 1));
        check.is(18, () -> m.price(0, 2));
        check.is(0, () -> m.price(1, 0));
        check.is(0, () -> m.price(1, 1));
        check.is(0, () -> m.price(1, 2));
        check.index(() -> m.price(3, 0));
        check.index(() -> m.price(-1, 9));
        check.argument(() -> m.price(0, 3));
        check.argument(() -> m.price(0, -1));
        m.let(0, false);
        check.is(0, () -> m.price(0, 0));
        check.is(0, () -> m.price(0, 1));
        check.is(9, () -> m.price(1, 0));
        check.is(3, () -> m.price(1, 1));
        check.is(6, () -> m.price(1, 2));
        check.is(4, () -> m.price(2, 1));
    }

    private void promise12() {
        check.title("12 blocks");
        PivotalMarket m = Markets.three();
        check.is(-1, () -> m.blocks(0));
        check.is(-1, () -> m.blocks(1));
        check.is(-1, () -> m.blocks(2));
        check.argument(() -> m.blocks(3));
        check.argument(() -> m.blocks(-1));
        // Two that complement one another pay nothing by PIVOT against one that wants both.
        PivotalMarket n = Markets.withGoods(0, 0);
        n.party();
        n.party();
        n.party();
        n.bid(1, n.node(0, 1, 10, 0));
        n.bid(2, n.node(0, 2, 10, 0));
        n.bid(0, n.node(0, 3, 10, 0));
        check.is(0, () -> n.price(1, 1));
        check.is(0, () -> n.price(2, 1));
        check.is(1, () -> n.blocks(1));
        check.is(-1, () -> n.blocks(0));
        check.is(-1, () -> n.blocks(2));
        // By HALF the seller had 5 + 5, which 10 was not above; 11 is, as (10 + 1) / 2 is still 5.
        n.bid(0, n.node(0, 3, 11, 0));
        check.is(5, () -> n.price(1, 2));
        check.is(1, () -> n.blocks(2));
        n.bid(0, n.node(0, 3, 1, 0));
        check.is(1, () -> n.blocks(1));
        n.let(0, false);
        check.is(-1, () -> n.blocks(1));
        n.let(1, false);
        n.let(2, false);
        check.is(-1, () -> n.blocks(1));
    }

    private void promise13() {
        check.title("13 gain");
        PivotalMarket m = Markets.three();
        check.is(0, () -> m.gain(0, 0, 4));
        // 15 is less than what the others are worth together.
        check.is(0, () -> m.gain(0, 0, 3));
        check.is(-3, () -> m.gain(0, 1, 3));
        check.is(0, () -> m.gain(0, 1, 8));
        check.is(-20, () -> m.gain(0, 0, 8));
        // By HALF it tells 40: (40 + 17) / 2 is 28 in place of 18.
        check.is(-10, () -> m.gain(0, 2, 8));
        check.is(0, () -> m.gain(1, 0, 0));
        // 18 and 8 win: it pays 18 - 8 more than it is worth to it.
        check.is(-9, () -> m.gain(1, 0, 8));
        check.is(-3, () -> m.gain(1, 1, 8));
        check.index(() -> m.gain(3, 0, 0));
        check.index(() -> m.gain(-1, 9, 9));
        check.argument(() -> m.gain(0, 3, 0));
        check.argument(() -> m.gain(0, -1, 0));
        check.argument(() -> m.gain(0, 0, 9));
        check.argument(() -> m.gain(0, 0, -1));
        m.let(0, false);
        check.index(() -> m.gain(0, 0, 0));
        check.index(() -> m.gain(0, 9, 0));
        // 9 * 2 / 4 is 4, rounded down, and still above the reserve of 3.
        check.is(5, () -> m.gain(1, 0, 2));
        check.is(0, () -> m.gain(1, 0, 1));
    }

    private void promise14() {
        check.title("14 lie");
        PivotalMarket m = Markets.three();
        check.is(-1, () -> m.lie(0, 0));
        check.is(-1, () -> m.lie(0, 1));
        check.is(-1, () -> m.lie(1, 0));
        m.let(0, false);
        check.is(2, () -> m.lie(1, 0));
        check.is(-1, () -> m.lie(1, 1));
        check.is(2, () -> m.lie(1, 2));
        check.is(3, () -> m.lie(2, 0));
        check.index(() -> m.lie(0, 0));
        check.index(() -> m.lie(0, 7));
        check.index(() -> m.lie(3, 0));
        check.index(() -> m.lie(-1, 0));
        check.argument(() -> m.lie(1, 3));
        check.argument(() -> m.lie(1, -1));
        // Of lies that gain the same the one with the fewest quarters: 1 * 1 / 4 and 2 * 1 / 4 and 3 * 1 / 4 are 0.
        PivotalMarket n = Markets.withGoods(0, 0);
        n.party();
        n.bid(0, n.node(1, n.node(0, 1, 99, 0), n.node(0, 2, 1, 0), 0));
        check.is(1, () -> n.lie(0, 0));
        check.is(75, () -> n.gain(0, 0, 1));
        check.is(0, () -> n.gain(0, 0, 0));
    }

    private void promise15() {
        check.title("15 open");
        PivotalMarket m = Markets.three();
        check.argument(() -> m.open(0));
        check.argument(() -> m.open(21));
        check.state(() -> m.rise(1));
        check.is(3, () -> m.open(20));
        m.let(1, false);
        check.is(2, () -> m.open(1));
        check.is(1, () -> m.rise(1));
        check.is(3, () -> m.tag(0));
        check.is(5, () -> m.tag(1));
        check.is(2, () -> m.open(5));
        check.is(0, () -> m.many(5));
        check.is(0, () -> m.many(6));
        check.is(3, () -> m.tag(0));
        check.is(0, () -> m.demand(0));
        // One that is refused changes nothing.
        m.rise(1);
        check.argument(() -> m.open(21));
        check.is(1, () -> m.many(5));
    }

    private void promise16() {
        check.title("16 rise");
        PivotalMarket m = Markets.three();
        check.argument(() -> m.rise(0));
        check.argument(() -> m.rise(41));
        check.state(() -> m.rise(1));
        m.open(2);
        // 2 demands the second good till that costs 8, 1 the first till that costs 9.
        check.is(2, () -> m.rise(2));
        check.is(7, () -> m.tag(0));
        check.is(8, () -> m.tag(1));
        check.is(2, () -> m.many(5));
        check.is(2, () -> m.rise(40));
        check.is(4, () -> m.many(5));
        check.is(1, () -> m.many(6));
        check.is(9, () -> m.tag(0));
        check.is(8, () -> m.tag(1));
        check.is(3, () -> m.demand(0));
        check.is(0, () -> m.demand(1));
        check.is(0, () -> m.demand(2));
        check.state(() -> m.rise(1));
        check.argument(() -> m.rise(41));
        m.open(2);
        check.is(4, () -> m.rise(4));
        check.is(1, () -> m.many(6));
    }

    /** A party that demanded few goods never demands more again; one that is out keeps its limit. */
    private void promise16Limits() {
        check.title("16 rise, limits");
        PivotalMarket m = Markets.withGoods(0, 0);
        for (int i = 0; i < 4; i++) {
            m.party();
        }
        int one = m.node(0, 1, 9, 0);
        int both = m.node(2, one, m.node(0, 2, 9, 0), 0);
        for (int i = 0; i < 4; i++) {
            m.bid(i, one);
        }
        m.open(1);
        m.let(3, false);
        m.rise(1);
        check.is(1, () -> m.demand(2));
        check.is(0, () -> m.demand(3));
        // Both are worth more now, but one good at most is demanded, that which costs nothing.
        m.bid(2, both);
        m.bid(3, both);
        m.rise(1);
        check.is(2, () -> m.demand(2));
        // 2 goes out for a round, and comes back with its limit of 1; 3 comes with 4.
        m.let(2, false);
        m.rise(1);
        check.is(0, () -> m.demand(2));
        m.let(2, true);
        m.let(3, true);
        m.rise(1);
        check.is(2, () -> m.demand(2));
        check.is(3, () -> m.demand(3));
        check.is(4, () -> m.tag(0));
        check.is(1, () -> m.tag(1));
        // New ones begin with a limit of 4.
        m.open(1);
        m.rise(1);
        check.is(3, () -> m.demand(2));
    }

    private void promise16Ends() {
        check.title("16 rise, ends");
        PivotalMarket m = Markets.withGoods(0);
        m.party();
        m.party();
        m.bid(0, m.node(0, 1, 99, 0));
        m.bid(1, 0);
        m.open(1);
        check.is(39, () -> m.rise(39));
        check.is(0, () -> m.many(6));
        check.is(1, () -> m.rise(40));
        check.is(40, () -> m.many(5));
        check.is(1, () -> m.many(6));
        check.is(40, () -> m.tag(0));
        check.state(() -> m.rise(1));
        // With a price of as much as the value the smaller set, nothing, is demanded.
        m.open(11);
        check.is(10, () -> m.rise(40));
        check.is(99, () -> m.tag(0));
        check.is(0, () -> m.demand(0));
        // Nobody there: the first round ends them.
        PivotalMarket none = new PivotalMarket();
        none.open(3);
        check.is(1, () -> none.rise(7));
        check.is(1, () -> none.many(6));
    }

    private void promise17() {
        check.title("17 tag");
        PivotalMarket m = Markets.withGoods(7);
        check.is(-1, () -> m.tag(0));
        check.index(() -> m.tag(1));
        check.index(() -> m.tag(-1));
        m.open(3);
        check.is(7, () -> m.tag(0));
        check.index(() -> m.tag(1));
        m.good(9);
        check.is(9, () -> m.tag(1));
    }

    private void promise18() {
        check.title("18 demand");
        PivotalMarket m = Markets.three();
        check.is(0, () -> m.demand(0));
        check.index(() -> m.demand(3));
        check.index(() -> m.demand(-1));
        m.open(1);
        check.is(0, () -> m.demand(0));
        m.rise(1);
        check.is(3, () -> m.demand(0));
        check.is(1, () -> m.demand(1));
        check.is(2, () -> m.demand(2));
        m.let(0, false);
        check.is(3, () -> m.demand(0));
        check.is(3, m::party);
        check.is(0, () -> m.demand(3));
        m.bid(3, 1);
        m.rise(1);
        check.is(0, () -> m.demand(0));
        check.is(1, () -> m.demand(3));
    }

    /** Two goods that 0 and 1 like both; 0 likes the first one most, 1 the second one; ranks the other way round. */
    private static PivotalMarket crossed() {
        PivotalMarket m = Markets.withGoods(0, 0);
        m.party();
        m.party();
        Markets.addsUp(m, 0, 9, 5);
        Markets.addsUp(m, 1, 4, 8);
        m.rank(0, 0, 2);
        m.rank(0, 1, 1);
        m.rank(1, 0, 1);
        m.rank(1, 1, 2);
        return m;
    }

    private void promise19() {
        check.title("19 matched");
        PivotalMarket m = crossed();
        matched(m, 0, 0, 1);
        matched(m, 1, 1, 0);
        matched(m, 2, 0, 1);
        check.index(() -> m.matched(2, 0));
        check.index(() -> m.matched(-1, 9));
        check.argument(() -> m.matched(0, 3));
        check.argument(() -> m.matched(0, -1));
        m.let(0, false);
        for (int rule = 0; rule <= 2; rule++) {
            matched(m, rule, -1, 1);
        }
        m.bid(1, -1);
        for (int rule = 0; rule <= 2; rule++) {
            matched(m, rule, -1, -1);
        }
    }

    private void matched(PivotalMarket m, int rule, int... due) {
        for (int party = 0; party < due.length; party++) {
            int i = party;
            check.is(due[party], () -> m.matched(i, rule));
        }
    }

    /** 0 and 2 like the second good alone, 1 the first one, and each good would rather have one that likes the other. */
    private static PivotalMarket trading() {
        PivotalMarket m = Markets.withGoods(0, 0);
        m.party();
        m.party();
        m.party();
        Markets.addsUp(m, 0, 0, 5);
        Markets.addsUp(m, 1, 5, 0);
        Markets.addsUp(m, 2, 0, 5);
        m.rank(0, 1, 1);
        m.rank(0, 2, 1);
        m.rank(1, 0, 3);
        m.rank(1, 1, 1);
        m.rank(1, 2, 2);
        return m;
    }

    private void promise19Rules() {
        check.title("19 matched, rules");
        // All like the first good most, as much as the second: the smaller number; ranks are alike: the smaller number.
        PivotalMarket m = Markets.withGoods(0, 0, 0);
        for (int i = 0; i < 4; i++) {
            m.party();
            Markets.addsUp(m, i, 6, 6, 0);
        }
        for (int rule = 0; rule <= 2; rule++) {
            matched(m, rule, 0, 1, -1, -1);
        }
        // One that was kept first is sent away for a better one, and goes on to the next that it likes.
        m.rank(0, 0, 5);
        m.rank(0, 1, 5);
        m.rank(0, 2, 5);
        matched(m, 0, 1, -1, -1, 0);
        matched(m, 1, 1, -1, -1, 0);
        // The ring of 3 and the first good is not there: it would rather have 3, and 3 has it.
        matched(m, 2, 1, -1, -1, 0);
        // The last party with the greatest rank, and the least value, is still one to have.
        PivotalMarket last = Markets.withGoods(0, 0, 0, 0);
        for (int i = 0; i < 5; i++) {
            last.party();
        }
        Markets.addsUp(last, 4, 0, 0, 0, 1);
        last.rank(3, 4, 9);
        for (int rule = 0; rule <= 2; rule++) {
            matched(last, rule, -1, -1, -1, -1, 3);
        }
        // A good points to one that does not like it, so that this one can trade it for what it likes.
        PivotalMarket r = trading();
        matched(r, 0, -1, 0, 1);
        matched(r, 1, -1, 0, 1);
        matched(r, 2, 1, 0, -1);
    }

    private void promise20() {
        check.title("20 pair");
        PivotalMarket m = crossed();
        check.is(-1, () -> m.pair(0));
        check.is(-1, () -> m.pair(1));
        check.is(-1, () -> m.pair(2));
        check.argument(() -> m.pair(3));
        check.argument(() -> m.pair(-1));
        // By rings 0 trades a good that it does not like for that which would rather have 2.
        PivotalMarket r = trading();
        check.is(-1, () -> r.pair(0));
        check.is(-1, () -> r.pair(1));
        check.is(21, () -> r.pair(2));
        r.rank(1, 2, 3);
        check.is(-1, () -> r.pair(2));
        // Likewise with the numbers turned round: 2 trades the second good for the first, which would rather have 0.
        PivotalMarket t = Markets.withGoods(0, 0);
        t.party();
        t.party();
        t.party();
        Markets.addsUp(t, 2, 5, 0);
        Markets.addsUp(t, 1, 0, 5);
        Markets.addsUp(t, 0, 5, 0);
        t.rank(1, 0, 1);
        t.rank(1, 1, 1);
        t.rank(0, 2, 3);
        t.rank(0, 1, 1);
        t.rank(0, 0, 2);
        matched(t, 2, -1, 1, 0);
        check.is(0, () -> t.pair(2));
        check.is(-1, () -> t.pair(0));
        PivotalMarket none = new PivotalMarket();
        check.is(-1, () -> none.pair(0));
    }

    private void promise21() {
        check.title("21 share");
        PivotalMarket m = Markets.withGoods(0);
        m.party();
        m.party();
        m.party();
        m.party();
        m.bid(0, m.node(0, 1, 30, 0));
        m.bid(1, m.node(0, 1, 20, 0));
        m.bid(2, m.node(0, 1, 11, 0));
        shares(m, 0, 0, 0, 0, 0, 0);
        // 10 * 30 / 61 is 4 and 56 of 61, 3 and 17, 1 and 49: two are left.
        shares(m, 0, 10, 5, 3, 2, 0);
        shares(m, 1, 10, 4, 3, 3, 0);
        shares(m, 2, 10, 4, 3, 3, 0);
        shares(m, 1, 40, 15, 14, 11, 0);
        // Half: 15, 10, 5; of 10 that are left 5 to the one that lacks most, then in turn to those that lack as much.
        shares(m, 2, 30, 15, 10, 5, 0);
        shares(m, 2, 40, 23, 12, 5, 0);
        shares(m, 0, 60, 29, 20, 11, 0);
        for (int rule = 0; rule <= 2; rule++) {
            shares(m, rule, 61, 30, 20, 11, 0);
            shares(m, rule, 300, 30, 20, 11, 0);
        }
        m.let(0, false);
        shares(m, 0, 300, 0, 20, 11, 0);
        shares(m, 0, 31, 0, 20, 11, 0);
        shares(m, 1, 3, 0, 2, 1, 0);
        check.index(() -> m.share(4, 0, 0));
        check.index(() -> m.share(-1, 9, 999));
        check.argument(() -> m.share(0, 3, 0));
        check.argument(() -> m.share(0, -1, 0));
        check.argument(() -> m.share(0, 0, 301));
        check.argument(() -> m.share(0, 0, -1));
        // As great rests: the smaller number.
        PivotalMarket n = Markets.withGoods(0);
        n.party();
        n.party();
        n.bid(0, n.node(0, 1, 7, 0));
        n.bid(1, 0);
        shares(n, 0, 5, 3, 2);
        shares(n, 1, 5, 3, 2);
        shares(n, 2, 5, 3, 2);
        shares(n, 2, 7, 4, 3);
    }

    private void shares(PivotalMarket m, int rule, int estate, int... due) {
        for (int party = 0; party < due.length; party++) {
            int i = party;
            check.is(due[party], () -> m.share(i, rule, estate));
        }
    }

    private void promise22() {
        check.title("22 picks");
        PivotalMarket m = Markets.withGoods(9, 9, 9, 9);
        check.index(() -> m.picks(0));
        m.party();
        m.party();
        m.party();
        Markets.addsUp(m, 0, 1, 3, 3, 2);
        Markets.addsUp(m, 2, 5, 9, 0, 0);
        // 0 takes the second, 1 (without a bid) the first, 2 the third for nothing, 0 the fourth.
        check.is(2 + 8, () -> m.picks(0));
        check.is(1, () -> m.picks(1));
        check.is(4, () -> m.picks(2));
        m.let(1, false);
        // 0 the second, 2 the first, 0 the third, 2 the fourth.
        check.is(2 + 4, () -> m.picks(0));
        check.is(0, () -> m.picks(1));
        check.is(1 + 8, () -> m.picks(2));
        m.let(2, false);
        check.is(15, () -> m.picks(0));
        m.let(0, false);
        check.is(0, () -> m.picks(0));
        check.index(() -> m.picks(3));
        check.index(() -> m.picks(-1));
    }

    private void promise23() {
        check.title("23 envies");
        PivotalMarket m = Markets.withGoods(0, 0, 0, 0);
        m.party();
        m.party();
        m.party();
        int all = Markets.addsUp(m, 0, 9, 8, 7, 6);
        m.bid(1, all);
        m.let(2, false);
        // 0 has the first and the third, 1 the second and the fourth.
        check.is(5, () -> m.picks(0));
        check.is(10, () -> m.picks(1));
        check.is(false, () -> m.envies(0, 1));
        check.is(false, () -> m.envies(1, 0));
        check.is(false, () -> m.envies(0, 0));
        check.is(false, () -> m.envies(2, 0));
        // One that is out has nothing, and envies what is worth something without any one good.
        m.bid(2, all);
        check.is(true, () -> m.envies(2, 0));
        check.is(true, () -> m.envies(2, 1));
        check.is(false, () -> m.envies(0, 2));
        check.is(false, () -> m.envies(2, 2));
        // The first good alone, and so nothing without it.
        m.bid(2, 0);
        check.is(false, () -> m.envies(2, 0));
        check.is(false, () -> m.envies(2, 1));
        // The first or the second one: nothing is left of the picks of 0 without the first.
        Markets.addsUp(m, 2, 1, 1);
        check.is(false, () -> m.envies(2, 0));
        // The first or the last one, where 0 has all.
        Markets.addsUp(m, 2, 1, 0, 0, 1);
        m.let(1, false);
        check.is(15, () -> m.picks(0));
        check.is(true, () -> m.envies(2, 0));
        check.is(true, () -> m.envies(1, 0));
        check.is(false, () -> m.envies(0, 1));
        // One pick alone is nothing without it.
        m.let(1, true);
        m.let(2, true);
        m.party();
        m.bid(3, all);
        m.let(3, false);
        check.is(5, () -> m.picks(0));
        check.is(2, () -> m.picks(1));
        check.is(8, () -> m.picks(2));
        check.is(true, () -> m.envies(3, 0));
        check.is(false, () -> m.envies(3, 1));
        check.index(() -> m.envies(0, 4));
        check.index(() -> m.envies(4, 0));
        check.index(() -> m.envies(-1, 0));
        check.index(() -> m.envies(0, -1));
    }

    private void promise24() {
        check.title("24 ballot");
        PivotalMarket m = new PivotalMarket();
        check.argument(() -> m.ballot(-1, 0, 1));
        check.argument(() -> m.ballot(4, 0, 1));
        check.argument(() -> m.ballot(0, 4, 1));
        check.argument(() -> m.ballot(0, -2, 1));
        check.argument(() -> m.ballot(0, -2, -1));
        check.argument(() -> m.ballot(0, 1, 4));
        check.argument(() -> m.ballot(0, 1, -2));
        check.argument(() -> m.ballot(0, 0, -1));
        check.argument(() -> m.ballot(0, 1, 0));
        check.argument(() -> m.ballot(0, 1, 1));
        check.argument(() -> m.ballot(0, -1, 1));
        check.argument(() -> m.ballot(-1, -1, -1));
        check.is(0, () -> m.many(7));
        check.is(0, () -> m.ballot(0, -1, -1));
        check.is(1, () -> m.ballot(3, 0, -1));
        check.is(2, () -> m.ballot(3, 2, 1));
        for (int i = 3; i < 8; i++) {
            int due = i;
            check.is(due, () -> m.ballot(1, 2, 3));
        }
        check.state(() -> m.ballot(1, 2, 3));
        check.argument(() -> m.ballot(1, 1, 3));
        check.is(8, () -> m.many(7));
    }

    private void promise25() {
        check.title("25 take");
        PivotalMarket m = new PivotalMarket();
        check.state(m::take);
        m.ballot(2, 3, 0);
        m.ballot(3, 0, -1);
        m.ballot(1, -1, -1);
        check.is(1, m::take);
        check.is(3, m::take);
        check.is(1, () -> m.many(7));
        check.is(2, () -> m.winner(0));
        check.is(1, () -> m.ballot(0, 1, 2));
        check.is(0, m::take);
        check.is(2, m::take);
        check.state(m::take);
        check.is(-1, () -> m.winner(0));
    }

    private void winners(PivotalMarket m, int... due) {
        for (int rule = 0; rule < due.length; rule++) {
            int r = rule;
            check.is(due[rule], () -> m.winner(r));
        }
    }

    private void promise26() {
        check.title("26 winner");
        winners(new PivotalMarket(), -1, -1, -1, -1, -1);
        check.argument(() -> new PivotalMarket().winner(5));
        check.argument(() -> new PivotalMarket().winner(-1));
        // Firsts 3 2 2 0; points 9 6 8 7; without 3, then 2 (of 2 and 1 the greater), then 1 is ahead by 4 to 3;
        // 3 beats 1 and 2; firsts and seconds 3 2 3 6.
        PivotalMarket m = Markets.withBallots("03", "03", "03", "13", "13", "231", "21");
        check.is(0, () -> m.winner(0));
        check.is(3, () -> m.winner(1));
        check.is(1, () -> m.winner(2));
        check.is(3, () -> m.winner(3));
        check.is(3, () -> m.winner(4));
        // All alike: the smaller number wins.
        winners(Markets.withBallots("0", "1", "2", "3"), 0, 0, 0, 0, 0);
        // By RUNS the greater number goes of those on as few.
        check.is(1, () -> Markets.withBallots("21", "1").winner(2));
        check.is(3, () -> Markets.withBallots("3").winner(2));
        // A ballot with none that is left counts for nobody: 3 and 1 go, and then 0 and 2 have 1 each.
        check.is(0, () -> Markets.withBallots("3", "0", "2").winner(2));
        // 3, 2 and 1 points for the places.
        check.is(1, () -> Markets.withBallots("012", "120", "31").winner(1));
        check.is(2, () -> Markets.withBallots("021", "312", "321", "02").winner(4));
        // One that is on a ballot is ahead of those that are not: 2 beats all, though never first alone.
        check.is(2, () -> Markets.withBallots("02", "12", "2", "3").winner(3));
        // 0 beats 1, 1 beats 2, 2 beats 0, all beat 3: the smaller number of three.
        check.is(0, () -> Markets.withBallots("012", "120", "201").winner(3));
    }

    private void promise27() {
        check.title("27 tips");
        PivotalMarket none = new PivotalMarket();
        check.index(() -> none.tips(0, 0));
        PivotalMarket m = Markets.withBallots("0", "0", "1", "1", "210");
        check.index(() -> m.tips(5, 0));
        check.index(() -> m.tips(-1, 9));
        check.argument(() -> m.tips(0, 5));
        check.argument(() -> m.tips(0, -1));
        check.is(0, () -> m.winner(0));
        // With 1 as its first one, which is ahead of 0 on it.
        check.is(1, () -> m.tips(4, 0));
        check.is(-1, () -> m.tips(0, 0));
        // 1 has nobody ahead of 1 whom it could help: 1 is only as good as 0 by one ballot more.
        check.is(-1, () -> m.tips(2, 0));
        // Only candidates ahead of the winner on the true ballot count, not those that are not on it.
        PivotalMarket n = Markets.withBallots("0", "1", "2");
        check.is(0, () -> n.winner(0));
        check.is(-1, () -> n.tips(1, 0));
        check.is(-1, () -> n.tips(0, 0));
        // Of several the one that is most ahead: 3 (by 3 alone) before 1.
        PivotalMarket p = Markets.withBallots("01", "30", "12", "231");
        check.is(0, () -> p.winner(0));
        check.is(3, () -> p.tips(3, 0));
        // The ballots are as before.
        check.is(0, () -> p.winner(0));
        check.is(2, p::take);
    }

    private void promise28() {
        check.title("28 seats");
        PivotalMarket none = new PivotalMarket();
        check.is(0, () -> none.seats(0, 0, 30));
        check.argument(() -> none.seats(-1, 0, 1));
        check.argument(() -> none.seats(4, 0, 1));
        check.argument(() -> none.seats(0, -1, 1));
        check.argument(() -> none.seats(0, 2, 1));
        check.argument(() -> none.seats(0, 0, 0));
        check.argument(() -> none.seats(0, 0, 31));
        PivotalMarket m = Markets.withBallots("03", "0", "0", "0", "1", "13", "3", "0");
        // Firsts 5, 2, 0, 1. By 0 in order 0, 0, 1 (2 against 5/3), 0, 0 (5/4), 1 (of 1, 1, 1), 0, 3.
        seats(m, 0, 1, 1, 0, 0, 0);
        seats(m, 0, 3, 2, 1, 0, 0);
        seats(m, 0, 5, 4, 1, 0, 0);
        seats(m, 0, 6, 5, 1, 0, 0);
        seats(m, 0, 7, 5, 2, 0, 0);
        seats(m, 0, 8, 5, 2, 0, 1);
        // By 1: 0 (5), 1 (2), 0 (5/3), 0 (1; as great for 3), 3 (1), 0 (5/7), 1 (2/3), 0 (5/9).
        seats(m, 1, 2, 1, 1, 0, 0);
        seats(m, 1, 4, 3, 1, 0, 0);
        seats(m, 1, 5, 3, 1, 0, 1);
        seats(m, 1, 7, 4, 2, 0, 1);
        seats(m, 1, 8, 5, 2, 0, 1);
        seats(Markets.withBallots("2"), 1, 30, 0, 0, 30, 0);
    }

    private void seats(PivotalMarket m, int rule, int all, int... due) {
        for (int candidate = 0; candidate < due.length; candidate++) {
            int c = candidate;
            check.is(due[candidate], () -> m.seats(c, rule, all));
        }
    }

    private void promise29() {
        check.title("29 seal");
        PivotalMarket m = Markets.three();
        check.argument(() -> m.seal(3));
        check.argument(() -> m.seal(-1));
        check.is(0, () -> m.many(8));
        for (int k = 0; k < 8; k++) {
            int due = k;
            check.is(due, () -> m.seal(due % 3));
        }
        check.state(() -> m.seal(0));
        check.argument(() -> m.seal(3));
        check.is(8, () -> m.many(8));
    }

    private void promise30() {
        check.title("30 appeal");
        PivotalMarket m = Markets.three();
        check.index(() -> m.appeal(0));
        m.seal(0);
        m.seal(1);
        m.seal(2);
        check.index(() -> m.appeal(3));
        check.index(() -> m.appeal(-1));
        check.is(0, () -> m.appeal(0));
        // 1 tells 10 in place of 9: only the PIVOT price of 0 is another one, and by that its HALF.
        m.bid(1, m.node(0, 1, 10, 0));
        check.is(0, () -> m.appeal(0));
        check.is(1, () -> m.appeal(1));
        check.is(1, () -> m.appeal(2));
        m.let(0, false);
        check.is(7, () -> m.appeal(0));
        m.let(0, true);
        check.is(0, () -> m.appeal(0));
        // One that came later, and wins.
        m.party();
        check.is(0, () -> m.appeal(0));
        m.bid(3, m.node(0, 3, 99, 0));
        check.is(1 + 8, () -> m.appeal(0));
        check.is(1 + 8, () -> m.appeal(1));
        // One that wins the same by another price: the value of what it won is less.
        m.bid(3, -1);
        m.bid(0, m.node(0, 3, 19, 0));
        check.is(1, () -> m.appeal(0));
        // One that pays the same, and wins something else.
        PivotalMarket n = Markets.withGoods(0, 0);
        n.party();
        n.bid(0, n.node(0, 1, 5, 0));
        n.seal(0);
        n.bid(0, n.node(0, 2, 5, 0));
        check.is(1, () -> n.appeal(0));
    }

    private void promise31() {
        check.title("31 many");
        PivotalMarket m = Markets.three();
        check.argument(() -> m.many(9));
        check.argument(() -> m.many(-1));
        m.party();
        m.let(3, false);
        m.seal(0);
        m.ballot(0, 1, 2);
        m.ballot(0, 1, 3);
        check.is(2, () -> m.many(0));
        check.is(4, () -> m.many(1));
        check.is(3, () -> m.many(2));
        check.is(3, () -> m.many(3));
        check.is(0, () -> m.many(4));
        check.is(0, () -> m.many(5));
        check.is(0, () -> m.many(6));
        check.is(2, () -> m.many(7));
        check.is(1, () -> m.many(8));
        m.let(0, false);
        check.is(0, () -> m.many(4));
        m.let(1, false);
        check.is(1, () -> m.many(4));
        m.let(2, false);
        check.is(3, () -> m.many(4));
        m.open(1);
        m.rise(9);
        check.is(1, () -> m.many(5));
        check.is(1, () -> m.many(6));
    }

    private void promise32() {
        check.title("32 meanPrice");
        PivotalMarket m = Markets.three();
        check.argument(() -> m.meanPrice(3));
        check.argument(() -> m.meanPrice(-1));
        check.is(20.0 / 3, () -> m.meanPrice(0));
        check.is(17.0 / 3, () -> m.meanPrice(1));
        check.is(6.0, () -> m.meanPrice(2));
        m.let(0, false);
        check.is(8.5, () -> m.meanPrice(0));
        check.is(3.5, () -> m.meanPrice(1));
        m.let(1, false);
        m.let(2, false);
        check.is(0.0, () -> m.meanPrice(0));
        check.is(0.0, () -> new PivotalMarket().meanPrice(2));
    }

    private void promise33() {
        check.title("33 digest");
        PivotalMarket empty = new PivotalMarket();
        // many 9 times and the worth are 0; blocks and pair are NONE by each rule; five winners are NONE; no seats.
        int[] due = {0, 0, 0, 0, 0, 0, 0, 0, 0, 0, -1, -1, -1, -1, -1, -1, -1, -1, -1, -1, -1, 0, 0, 0, 0, 0, 0, 0, 0};
        long ofEmpty = digestOf(due);
        check.is(ofEmpty, empty::digest);
        check.is(ofEmpty, empty::digest);
        PivotalMarket one = Markets.withGoods(2);
        one.party();
        one.bid(0, one.node(0, 1, 8, 0));
        one.ballot(3, -1, -1);
        one.seal(0);
        one.open(1);
        int[] ofOne = {
            1, 1, 1, 1, 0, 0, 0, 1, 1, 8,
            -1, -1, -1, -1, -1, -1,
            1, 0, 1,
            8, 0, 8, 2, 2, 0, 8, -1, 5, 0, 8, 2,
            0,
            2,
            3, 3, 3, 3, 3,
            -1, -1, -1, -1, -1,
            0, 0, 0, 0, 0, 0, 7, 7,
            0,
        };
        check.is(digestOf(ofOne), one::digest);
        // One that is out tells no lie: a number less.
        one.let(0, false);
        int[] ofOut = {
            1, 1, 1, 0, 1, 0, 0, 1, 1, 2,
            -1, -1, -1, -1, -1, -1,
            0, 0, 0,
            0, -1, 0, 0, -1, 0, 0, -1, 0,
            0,
            2,
            3, 3, 3, 3, 3,
            -1, -1, -1, -1, -1,
            0, 0, 0, 0, 0, 0, 7, 7,
            1,
        };
        check.is(digestOf(ofOut), one::digest);
    }

    private static long digestOf(int... numbers) {
        long d = 58148;
        for (int v : numbers) {
            d = d * 31 + v;
        }
        return d;
    }
}
