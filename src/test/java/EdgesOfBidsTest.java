/** Promises 1 to 8: each sentence that names an edge has a test of its own, on both sides of that edge. */
public final class EdgesOfBidsTest {
    private final Check check = new Check();

    public static void main(String[] args) {
        EdgesOfBidsTest all = new EdgesOfBidsTest();
        all.newObject();
        all.goodsAndParties();
        all.nodesThatAreAllowed();
        all.amounts();
        all.bids();
        all.check.end();
    }

    private void newObject() {
        check.title("1: a market without GOODS and PARTIES");
        PivotalMarket m = new PivotalMarket();
        for (int what = 0; what <= 8; what++) {
            int w = what;
            check.is(0, () -> m.many(w));
        }
        check.is(0, () -> m.good(0));
        check.is(0, m::party);
        PivotalMarket other = new PivotalMarket();
        check.is(0, () -> other.many(0));
        check.is(0, () -> other.many(1));
    }

    private void goodsAndParties() {
        reserveIs0To50();
        atMost4Goods();
        noGoodsOnceThereAreNodes();
        atMost5Parties();
        inAtFirst();
        partiesComeAtAnyTime();
    }

    private void reserveIs0To50() {
        check.title("2: RESERVE (0 to 50)");
        PivotalMarket m = new PivotalMarket();
        check.argument(() -> m.good(-1));
        check.is(0, () -> m.good(0));
        check.is(1, () -> m.good(50));
        check.argument(() -> m.good(51));
        check.is(2, () -> m.many(0));
        check.is(50, () -> m.worth(0));
        m.open(1);
        check.is(0, () -> m.tag(0));
        check.is(50, () -> m.tag(1));
    }

    private void atMost4Goods() {
        check.title("2: GOODS: at most 4");
        PivotalMarket m = Markets.withGoods(50, 50, 50);
        check.is(3, () -> m.good(50));
        check.state(() -> m.good(50));
        check.is(4, () -> m.many(0));
        check.is(200, () -> m.worth(0));
    }

    private void noGoodsOnceThereAreNodes() {
        check.title("2: or there are NODES");
        PivotalMarket m = Markets.withParties(1, 0);
        m.ballot(0, -1, -1);
        m.open(1);
        m.seal(0);
        check.argument(() -> m.node(0, 1, 100, 0));
        check.is(1, () -> m.good(0));
        m.node(0, 1, 1, 0);
        check.state(() -> m.good(0));
        check.is(2, () -> m.many(0));
    }

    private void atMost5Parties() {
        check.title("3: PARTIES: at most 5");
        PivotalMarket m = Markets.withParties(4);
        check.is(4, m::party);
        check.state(m::party);
        check.is(5, () -> m.many(1));
        m.let(4, false);
        check.state(m::party);
        check.is(5, () -> m.many(1));
        check.is(4, () -> m.many(3));
    }

    private void inAtFirst() {
        check.title("3: each IN at first");
        PivotalMarket m = Markets.withParties(1);
        check.is(1, () -> m.many(3));
        m.let(0, false);
        check.is(1, m::party);
        check.is(1, () -> m.many(3));
        check.is(-1, () -> m.lie(1, 0));
        check.index(() -> m.lie(0, 0));
    }

    private void partiesComeAtAnyTime() {
        check.title("3: parties may come after nodes, rounds, ballots and seals");
        PivotalMarket m = Markets.withParties(1, 0);
        Markets.wants(m, 0, 1, 5);
        m.open(1);
        m.rise(40);
        m.ballot(0, -1, -1);
        m.seal(0);
        check.is(1, m::party);
        check.is(-1, () -> m.bid(1, 0));
    }

    private void nodesThatAreAllowed() {
        kindIs0To4();
        wantHasOneGoodAtLeast();
        wantWithoutGoods();
        amountOfWantIs1To99();
        cIs0WhereNoneIsTold();
        cOfBothIs0To99();
        capIs0To200();
        partsAreNodesThatThereAre();
        atMost30Nodes();
    }

    private void kindIs0To4() {
        check.title("4: kind is 0 to 4");
        PivotalMarket m = Markets.withGoods(0, 0);
        m.node(0, 1, 1, 0);
        m.node(0, 1, 1, 0);
        // Each a and b is right for all kinds.
        check.argument(() -> m.node(-1, 1, 1, 0));
        for (int kind = 0; kind <= 4; kind++) {
            int k = kind;
            check.is(k + 2, () -> m.node(k, 1, 1, 0));
        }
        check.argument(() -> m.node(5, 1, 1, 0));
        check.is(7, () -> m.many(2));
    }

    private void wantHasOneGoodAtLeast() {
        check.title("4: WANT: the set a (one GOOD at least)");
        for (int goods = 1; goods <= 4; goods++) {
            PivotalMarket m = Markets.withGoods(new int[goods]);
            int all = (1 << goods) - 1;
            check.argument(() -> m.node(0, -1, 1, 0));
            check.argument(() -> m.node(0, 0, 1, 0));
            check.is(0, () -> m.node(0, 1, 1, 0));
            check.is(1, () -> m.node(0, all, 1, 0));
            check.argument(() -> m.node(0, all + 1, 1, 0));
            check.argument(() -> m.node(0, Integer.MIN_VALUE + 1, 1, 0));
            check.is(2, () -> m.many(2));
        }
    }

    private void wantWithoutGoods() {
        check.title("4: without GOODS there is no set of one at least");
        PivotalMarket m = Markets.withParties(1);
        for (int a = -1; a <= 1; a++) {
            int set = a;
            check.argument(() -> m.node(0, set, 1, 0));
        }
        check.is(0, () -> m.many(2));
        check.is(0, () -> m.good(0));
    }

    private void amountOfWantIs1To99() {
        check.title("4: WANT: b (1 to 99)");
        PivotalMarket m = Markets.withParties(2, 0);
        check.argument(() -> m.node(0, 1, 0, 0));
        check.is(0, () -> m.node(0, 1, 1, 0));
        check.is(1, () -> m.node(0, 1, 99, 0));
        check.argument(() -> m.node(0, 1, 100, 0));
        check.argument(() -> m.node(0, 1, -1, 0));
        m.bid(0, 0);
        m.bid(1, 1);
        check.is(1, () -> m.value(0, 1));
        check.is(99, () -> m.value(1, 1));
    }

    private void cIs0WhereNoneIsTold() {
        check.title("4: c (0, where none is told)");
        PivotalMarket m = Markets.withGoods(0, 0);
        m.node(0, 1, 1, 0);
        m.node(0, 1, 1, 0);
        int[] kinds = {0, 1, 2, 4};
        for (int i = 0; i < kinds.length; i++) {
            int k = kinds[i];
            int due = 2 + i;
            check.argument(() -> m.node(k, 1, 1, -1));
            check.is(due, () -> m.node(k, 1, 1, 0));
            check.argument(() -> m.node(k, 1, 1, 1));
        }
    }

    private void cOfBothIs0To99() {
        check.title("4: BOTH: c (0 to 99)");
        PivotalMarket m = Markets.withParties(2, 0, 0);
        m.node(0, 1, 1, 0);
        m.node(0, 2, 1, 0);
        check.argument(() -> m.node(3, 0, 1, -1));
        check.is(2, () -> m.node(3, 0, 1, 0));
        check.is(3, () -> m.node(3, 0, 1, 99));
        check.argument(() -> m.node(3, 0, 1, 100));
        m.bid(0, 2);
        m.bid(1, 3);
        check.is(2, () -> m.value(0, 3));
        check.is(101, () -> m.value(1, 3));
    }

    private void capIs0To200() {
        check.title("4: CAP: b (0 to 200)");
        PivotalMarket m = Markets.withParties(3, 0, 0);
        m.node(0, 1, 99, 0);
        m.node(0, 2, 99, 0);
        m.node(3, 0, 1, 99);
        check.argument(() -> m.node(4, 2, -1, 0));
        check.is(3, () -> m.node(4, 2, 0, 0));
        check.is(4, () -> m.node(4, 2, 200, 0));
        check.argument(() -> m.node(4, 2, 201, 0));
        m.bid(0, 2);
        m.bid(1, 3);
        m.bid(2, 4);
        check.is(297, () -> m.value(0, 3));
        check.is(0, () -> m.value(1, 3));
        check.is(200, () -> m.value(2, 3));
    }

    private void partsAreNodesThatThereAre() {
        check.title("4: of the NODES a and b");
        PivotalMarket none = Markets.withGoods(0);
        PivotalMarket m = Markets.withGoods(0);
        int there = 0;
        for (int kind = 1; kind <= 4; kind++) {
            int k = kind;
            check.argument(() -> none.node(k, 0, 0, 0));
            there = 3 * kind - 2;
            for (int i = m.many(2); i < there; i++) {
                m.node(0, 1, 1, 0);
            }
            int count = there;
            check.argument(() -> m.node(k, -1, 0, 0));
            check.argument(() -> m.node(k, count, 0, 0));
            if (kind != 4) {
                check.argument(() -> m.node(k, 0, -1, 0));
                check.argument(() -> m.node(k, 0, count, 0));
            }
            check.is(count, () -> m.node(k, 0, 0, 0));
            check.is(count + 1, () -> m.node(k, count, count, 0));
        }
    }

    private void atMost30Nodes() {
        check.title("4: NODES: at most 30");
        PivotalMarket m = Markets.withParties(1, 0);
        for (int i = 0; i < 29; i++) {
            m.node(0, 1, 1 + i, 0);
        }
        check.is(29, () -> m.node(4, 28, 7, 0));
        for (int kind = 0; kind <= 4; kind++) {
            int k = kind;
            check.state(() -> m.node(k, 1, 1, 0));
        }
        check.is(30, () -> m.many(2));
        m.bid(0, 29);
        check.is(7, () -> m.value(0, 1));
    }

    private void amounts() {
        wantTellsOtherwise0();
        xorTellsTheGreaterOne();
        orGivesNoneOrAll();
        bothAreAbove0();
        bothIsOfTheGreatestSum();
        capIsAtMost();
        nodesAreBuiltOfNodes();
    }

    private void values(PivotalMarket m, int node, int... due) {
        m.bid(0, node);
        for (int set = 0; set < due.length; set++) {
            int s = set;
            check.is(due[set], () -> m.value(0, s));
        }
    }

    private void wantTellsOtherwise0() {
        check.title("4: WANT: for each set that has all of the set a, otherwise 0");
        PivotalMarket m = Markets.withParties(1, 0, 0, 0, 0);
        values(m, m.node(0, 5, 8, 0), 0, 0, 0, 0, 0, 8, 0, 8, 0, 0, 0, 0, 0, 8, 0, 8);
        values(m, m.node(0, 15, 9, 0), 0, 0, 0, 0, 0, 0, 0, 0, 0, 0, 0, 0, 0, 0, 0, 9);
        values(m, m.node(0, 8, 1, 0), 0, 0, 0, 0, 0, 0, 0, 0, 1, 1, 1, 1, 1, 1, 1, 1);
    }

    private void xorTellsTheGreaterOne() {
        check.title("4: XOR: the greater one");
        PivotalMarket m = Markets.withParties(1, 0, 0);
        int one = m.node(0, 1, 6, 0);
        int other = m.node(0, 2, 7, 0);
        values(m, m.node(1, one, other, 0), 0, 6, 7, 7);
        values(m, m.node(1, other, one, 0), 0, 6, 7, 7);
        values(m, m.node(1, one, one, 0), 0, 6, 0, 6);
    }

    private void orGivesNoneOrAll() {
        check.title("4: OR: a part of the set (perhaps none, or all)");
        PivotalMarket m = Markets.withParties(1, 0, 0);
        int all = m.node(0, 3, 15, 0);
        int one = m.node(0, 1, 10, 0);
        // All goods to a, none to b, and the other way round.
        values(m, m.node(2, all, one, 0), 0, 10, 0, 15);
        values(m, m.node(2, one, all, 0), 0, 10, 0, 15);
        // Not both of one good.
        values(m, m.node(2, one, one, 0), 0, 10, 0, 10);
        int other = m.node(0, 2, 6, 0);
        // The sum is one more than all for one.
        values(m, m.node(2, one, other, 0), 0, 10, 6, 16);
        values(m, m.node(1, all, m.node(2, one, other, 0), 0), 0, 10, 6, 16);
    }

    private void bothAreAbove0() {
        check.title("4: BOTH: with c more where both are above 0");
        PivotalMarket m = Markets.withParties(1, 0, 0);
        int one = m.node(0, 1, 10, 0);
        int other = m.node(0, 2, 1, 0);
        int nothing = m.node(4, other, 0, 0);
        values(m, m.node(3, one, other, 4), 0, 10, 1, 15);
        values(m, m.node(3, one, nothing, 4), 0, 10, 0, 10);
        values(m, m.node(3, nothing, one, 4), 0, 10, 0, 10);
        values(m, m.node(3, nothing, nothing, 4), 0, 0, 0, 0);
        values(m, m.node(3, one, one, 4), 0, 10, 0, 10);
    }

    private void bothIsOfTheGreatestSum() {
        check.title("4: BOTH: the greatest sum, with c more");
        PivotalMarket m = Markets.withParties(1, 0, 0);
        int all = m.node(0, 3, 12, 0);
        int parts = m.node(2, m.node(0, 1, 5, 0), m.node(0, 2, 4, 0), 0);
        int either = m.node(1, all, parts, 0);
        int second = m.node(0, 2, 3, 0);
        // 12 for all against 5 + 3 and c: 3 more are not enough, 4 are as many, 5 are enough.
        values(m, m.node(3, either, second, 3), 0, 5, 4, 12);
        values(m, m.node(3, either, second, 4), 0, 5, 4, 12);
        values(m, m.node(3, either, second, 5), 0, 5, 4, 13);
    }

    private void capIsAtMost() {
        check.title("4: CAP: but b at most");
        PivotalMarket m = Markets.withParties(1, 0, 0);
        int sum = m.node(2, m.node(0, 1, 5, 0), m.node(0, 2, 9, 0), 0);
        values(m, m.node(4, sum, 15, 0), 0, 5, 9, 14);
        values(m, m.node(4, sum, 14, 0), 0, 5, 9, 14);
        values(m, m.node(4, sum, 13, 0), 0, 5, 9, 13);
        values(m, m.node(4, sum, 5, 0), 0, 5, 5, 5);
        values(m, m.node(4, sum, 4, 0), 0, 4, 4, 4);
    }

    private void nodesAreBuiltOfNodes() {
        check.title("4: a tree of 30 nodes");
        PivotalMarket m = Markets.withParties(1, 0, 0, 0, 0);
        for (int good = 0; good < 4; good++) {
            m.node(0, 1 << good, 99, 0);
        }
        m.node(3, 0, 1, 99);
        m.node(3, 4, 2, 99);
        m.node(3, 5, 3, 99);
        for (int node = 7; node < 30; node++) {
            m.node(1 + node % 2, node - 1, node - 1, 0);
        }
        // Four goods for 99 each, and three times 99 more.
        m.bid(0, 29);
        check.is(693, () -> m.value(0, 15));
        check.is(99, () -> m.value(0, 8));
        check.is(0, () -> m.value(0, 0));
    }

    private void bids() {
        bidOfAPartyThatThereIs();
        bidOfANodeThatThereIs();
        bidReturnsThatBefore();
        letOfAPartyThatThereIs();
        letReturnsHowManyAreIn();
        rankOfWhatThereIs();
        rankIs0To9();
        rankReturnsThatBefore();
        valueOfASetOfGoods();
        valueOfAPartyThatThereIs();
    }

    private void bidOfAPartyThatThereIs() {
        check.title("5: no such PARTY");
        PivotalMarket none = Markets.withGoods(0);
        none.node(0, 1, 1, 0);
        check.index(() -> none.bid(0, 0));
        check.index(() -> none.bid(-1, 0));
        PivotalMarket m = Markets.withParties(5, 0);
        m.node(0, 1, 1, 0);
        check.index(() -> m.bid(-1, 0));
        check.is(-1, () -> m.bid(0, 0));
        check.is(-1, () -> m.bid(4, 0));
        check.index(() -> m.bid(5, 0));
        check.is(1, () -> m.value(4, 1));
        check.is(0, () -> m.value(3, 1));
    }

    private void bidOfANodeThatThereIs() {
        check.title("5: no such NODE; NONE for none");
        PivotalMarket none = Markets.withParties(1, 0);
        check.argument(() -> none.bid(0, -2));
        check.is(-1, () -> none.bid(0, -1));
        check.argument(() -> none.bid(0, 0));
        PivotalMarket m = Markets.full();
        check.argument(() -> m.bid(0, -2));
        check.is(0, () -> m.bid(0, -1));
        check.is(-1, () -> m.bid(0, 0));
        check.is(0, () -> m.bid(0, 29));
        check.argument(() -> m.bid(0, 30));
        check.is(29, () -> m.bid(0, 29));
    }

    private void bidReturnsThatBefore() {
        check.title("5: returns that before (NONE); a BID is none (0 for each set)");
        PivotalMarket m = Markets.withParties(1, 0);
        m.node(0, 1, 5, 0);
        m.node(0, 1, 6, 0);
        check.is(0, () -> m.value(0, 1));
        check.is(-1, () -> m.bid(0, 1));
        check.is(6, () -> m.value(0, 1));
        check.argument(() -> m.bid(0, 2));
        check.is(6, () -> m.value(0, 1));
        check.is(1, () -> m.bid(0, -1));
        check.is(0, () -> m.value(0, 1));
        check.is(0, () -> m.won(0));
        check.is(-1, () -> m.bid(0, 0));
        check.is(1, () -> m.won(0));
    }

    private void letOfAPartyThatThereIs() {
        check.title("6: no such PARTY");
        PivotalMarket none = new PivotalMarket();
        check.index(() -> none.let(0, false));
        check.index(() -> none.let(-1, true));
        PivotalMarket m = Markets.withParties(5);
        check.index(() -> m.let(-1, false));
        check.is(4, () -> m.let(0, false));
        check.is(3, () -> m.let(4, false));
        check.index(() -> m.let(5, false));
        check.is(3, () -> m.many(3));
    }

    private void letReturnsHowManyAreIn() {
        check.title("6: returns how many are IN then");
        PivotalMarket m = Markets.withParties(5);
        check.is(5, () -> m.let(2, true));
        for (int i = 0; i < 5; i++) {
            int party = i;
            check.is(4 - i, () -> m.let(party, false));
        }
        check.is(0, () -> m.let(3, false));
        for (int i = 0; i < 5; i++) {
            int party = i;
            check.is(1 + i, () -> m.let(party, true));
        }
        check.is(5, () -> m.let(4, true));
    }

    private void rankOfWhatThereIs() {
        check.title("7: no such GOOD, or PARTY");
        PivotalMarket noGoods = Markets.withParties(1);
        check.index(() -> noGoods.rank(0, 0, 0));
        PivotalMarket noParties = Markets.withGoods(0);
        check.index(() -> noParties.rank(0, 0, 0));
        PivotalMarket m = Markets.withParties(5, 0, 0, 0, 0);
        check.index(() -> m.rank(-1, 0, 0));
        check.is(0, () -> m.rank(0, 0, 1));
        check.is(0, () -> m.rank(3, 4, 2));
        check.index(() -> m.rank(4, 0, 0));
        check.index(() -> m.rank(0, -1, 0));
        check.index(() -> m.rank(0, 5, 0));
        check.is(1, () -> m.rank(0, 0, 1));
        check.is(2, () -> m.rank(3, 4, 2));
        check.is(0, () -> m.rank(3, 3, 0));
        check.is(0, () -> m.rank(2, 4, 0));
    }

    private void rankIs0To9() {
        check.title("7: rank is 0 to 9");
        PivotalMarket m = Markets.withParties(1, 0);
        check.argument(() -> m.rank(0, 0, -1));
        check.is(0, () -> m.rank(0, 0, 9));
        check.argument(() -> m.rank(0, 0, 10));
        check.is(9, () -> m.rank(0, 0, 0));
        check.argument(() -> m.rank(0, 0, -1));
        check.is(0, () -> m.rank(0, 0, 0));
    }

    private void rankReturnsThatBefore() {
        check.title("7: a RANK for each PARTY (0 at first), also for those told later");
        PivotalMarket m = Markets.withParties(1, 0);
        m.rank(0, 0, 7);
        m.good(0);
        m.party();
        check.is(0, () -> m.rank(1, 0, 1));
        check.is(0, () -> m.rank(0, 1, 2));
        check.is(0, () -> m.rank(1, 1, 3));
        check.is(7, () -> m.rank(0, 0, 0));
        check.is(1, () -> m.rank(1, 0, 0));
        check.is(2, () -> m.rank(0, 1, 0));
        check.is(3, () -> m.rank(1, 1, 0));
    }

    private void valueOfASetOfGoods() {
        check.title("8: no set of GOODS");
        for (int goods = 0; goods <= 4; goods++) {
            PivotalMarket m = Markets.withParties(1, new int[goods]);
            int all = (1 << goods) - 1;
            check.argument(() -> m.value(0, -1));
            check.is(0, () -> m.value(0, 0));
            check.is(0, () -> m.value(0, all));
            check.argument(() -> m.value(0, all + 1));
            check.argument(() -> m.value(0, Integer.MIN_VALUE));
        }
    }

    private void valueOfAPartyThatThereIs() {
        check.title("8: no such PARTY; VALUE of one that is IN or OUT");
        PivotalMarket none = Markets.withGoods(0);
        check.index(() -> none.value(0, 0));
        PivotalMarket m = Markets.withParties(5, 0);
        Markets.wants(m, 4, 1, 9);
        check.index(() -> m.value(-1, 1));
        check.is(0, () -> m.value(0, 1));
        check.is(9, () -> m.value(4, 1));
        check.index(() -> m.value(5, 1));
        m.let(4, false);
        check.is(9, () -> m.value(4, 1));
    }
}
