/** Promises 15 to 18: each sentence that names an edge has a test of its own, on both sides of that edge. */
public final class EdgesOfRisingTest {
    private final Check check = new Check();

    public static void main(String[] args) {
        EdgesOfRisingTest all = new EdgesOfRisingTest();
        all.beginning();
        all.rounds();
        all.limits();
        all.tagsAndDemands();
        all.check.end();
    }

    /** Parties that all want the first good for 99. */
    private static PivotalMarket crowd(int parties, int... reserves) {
        PivotalMarket m = Markets.withParties(parties, reserves);
        m.node(0, 1, 99, 0);
        for (int party = 0; party < parties; party++) {
            m.bid(party, 0);
        }
        return m;
    }

    private void beginning() {
        stepIs1To20();
        openReturnsHowManyAreIn();
        thoseThatWereAreGone();
    }

    private void stepIs1To20() {
        check.title("15: step is 1 to 20");
        PivotalMarket m = crowd(2, 30);
        check.argument(() -> m.open(0));
        check.argument(() -> m.open(-1));
        check.argument(() -> m.open(21));
        check.is(-1, () -> m.tag(0));
        check.is(2, () -> m.open(1));
        m.rise(1);
        check.is(31, () -> m.tag(0));
        check.is(2, () -> m.open(20));
        m.rise(1);
        check.is(50, () -> m.tag(0));
        check.argument(() -> m.open(21));
        m.rise(1);
        check.is(70, () -> m.tag(0));
    }

    private void openReturnsHowManyAreIn() {
        check.title("15: returns how many PARTIES are IN");
        check.is(0, () -> new PivotalMarket().open(1));
        PivotalMarket m = Markets.withParties(5);
        check.is(5, () -> m.open(1));
        for (int party = 0; party < 5; party++) {
            m.let(party, false);
            int left = 4 - party;
            check.is(left, () -> m.open(1));
        }
    }

    private void thoseThatWereAreGone() {
        check.title("15: those that were are gone");
        PivotalMarket m = Markets.withParties(2, 5, 0);
        int first = Markets.wants(m, 0, 1, 99);
        m.bid(1, first);
        m.open(7);
        m.rise(3);
        check.is(26, () -> m.tag(0));
        check.is(3, () -> m.many(5));
        check.is(1, () -> m.demand(0));
        check.is(2, () -> m.open(1));
        check.is(5, () -> m.tag(0));
        check.is(0, () -> m.many(5));
        check.is(0, () -> m.many(6));
        check.is(0, () -> m.demand(0));
        // The limit of 1 is gone, too.
        m.bid(0, m.node(2, first, m.node(0, 2, 9, 0), 0));
        m.rise(1);
        check.is(3, () -> m.demand(0));
        check.is(6, () -> m.tag(0));
        // Those that ended can begin again.
        m.let(1, false);
        m.rise(40);
        check.is(1, () -> m.many(6));
        check.is(1, () -> m.open(1));
        check.is(0, () -> m.many(6));
        check.is(1, () -> m.rise(40));
    }

    private void rounds() {
        roundsAre1To40();
        noneBegan();
        theyEnded();
        returnsHowManyWereDone();
        endsWithTheRoundInWhichNoPriceRises();
        endsWithThe40thRound();
        risesWhereMoreThanOneDemands();
        byBidsAndWhoIsInAsTheyAreNow();
    }

    private void roundsAre1To40() {
        check.title("16: rounds is 1 to 40");
        PivotalMarket m = crowd(2, 0);
        m.open(1);
        check.argument(() -> m.rise(0));
        check.argument(() -> m.rise(-1));
        check.argument(() -> m.rise(41));
        check.is(0, () -> m.many(5));
        check.is(1, () -> m.rise(1));
        check.is(39, () -> m.rise(40));
        m.open(1);
        check.is(40, () -> m.rise(40));
    }

    private void noneBegan() {
        check.title("16: if none began");
        PivotalMarket m = crowd(2, 0);
        check.state(() -> m.rise(1));
        check.state(() -> m.rise(40));
        check.is(0, () -> m.many(5));
        check.is(0, () -> m.many(6));
        check.is(0, () -> m.demand(0));
        m.open(1);
        check.is(1, () -> m.rise(1));
    }

    private void theyEnded() {
        check.title("16: or they ENDED");
        PivotalMarket m = crowd(1, 0);
        m.open(1);
        check.is(1, () -> m.rise(1));
        check.state(() -> m.rise(1));
        // One that comes later changes nothing of that.
        m.party();
        m.bid(1, 0);
        check.state(() -> m.rise(1));
        check.is(1, () -> m.many(5));
        check.is(0, () -> m.demand(1));
    }

    private void returnsHowManyWereDone() {
        check.title("16: how many at most; how many were done");
        PivotalMarket m = crowd(2, 0);
        m.open(20);
        // At 80 both demand it, at 100 none does: 5 rounds in which it rises, and one more.
        check.is(2, () -> m.rise(2));
        check.is(3, () -> m.rise(3));
        check.is(100, () -> m.tag(0));
        check.is(0, () -> m.many(6));
        check.is(1, () -> m.rise(2));
        check.is(100, () -> m.tag(0));
        check.is(1, () -> m.many(6));
        m.open(20);
        check.is(6, () -> m.rise(6));
        m.open(20);
        check.is(6, () -> m.rise(7));
    }

    private void endsWithTheRoundInWhichNoPriceRises() {
        check.title("16: they END with the ROUND in which no PRICE rises");
        PivotalMarket none = new PivotalMarket();
        none.open(1);
        check.is(1, () -> none.rise(40));
        check.is(1, () -> none.many(6));
        PivotalMarket noGoods = Markets.withParties(5);
        noGoods.open(1);
        check.is(1, () -> noGoods.rise(40));
        PivotalMarket nobodyIn = Markets.full();
        for (int party = 0; party < 5; party++) {
            nobodyIn.let(party, false);
        }
        nobodyIn.open(1);
        check.is(1, () -> nobodyIn.rise(40));
        check.is(1, () -> nobodyIn.many(5));
        check.is(4, () -> nobodyIn.tag(3));
    }

    private void endsWithThe40thRound() {
        check.title("16: or the 40th one");
        PivotalMarket m = crowd(2, 0);
        m.open(1);
        check.is(39, () -> m.rise(39));
        check.is(0, () -> m.many(6));
        check.is(1, () -> m.rise(1));
        check.is(1, () -> m.many(6));
        check.is(40, () -> m.many(5));
        check.is(40, () -> m.tag(0));
        check.state(() -> m.rise(1));
        check.is(40, () -> m.tag(0));
    }

    private void risesWhereMoreThanOneDemands() {
        check.title("16: each GOOD that more than one DEMANDS");
        PivotalMarket m = crowd(5, 10, 20, 30);
        for (int party = 3; party < 5; party++) {
            Markets.wants(m, party, 2, 99);
        }
        Markets.wants(m, 2, 4, 99);
        m.open(3);
        m.rise(1);
        // Two demand the first, two the second, one the third.
        check.is(13, () -> m.tag(0));
        check.is(23, () -> m.tag(1));
        check.is(30, () -> m.tag(2));
        m.let(4, false);
        m.rise(1);
        check.is(16, () -> m.tag(0));
        check.is(23, () -> m.tag(1));
    }

    private void byBidsAndWhoIsInAsTheyAreNow() {
        check.title("16: by BIDS, and who is IN, as they are now");
        PivotalMarket m = crowd(3, 0, 0);
        int second = m.node(0, 2, 9, 0);
        m.open(1);
        m.rise(1);
        m.bid(0, second);
        m.let(1, false);
        m.rise(1);
        check.is(2, () -> m.demand(0));
        check.is(0, () -> m.demand(1));
        check.is(1, () -> m.demand(2));
        check.is(1, () -> m.tag(0));
        check.is(1, () -> m.many(6));
    }

    private void limits() {
        allBeginWithLimit4();
        partiesToldLaterHaveLimit4();
        goodsToldLaterHaveTheirReserve();
        atMostLimitGoods();
        limitOfThoseThatAreOutStays();
        limit0();
        ofSeveralTheSmallestNumber();
    }

    /** A node that wants each of four goods for that much. */
    private static int four(PivotalMarket m, int amount) {
        int node = m.node(0, 1, amount, 0);
        for (int good = 1; good < 4; good++) {
            node = m.node(2, node, m.node(0, 1 << good, amount, 0), 0);
        }
        return node;
    }

    private void allBeginWithLimit4() {
        check.title("16: each PARTY, IN or OUT, the LIMIT 4");
        PivotalMarket m = Markets.withParties(3, 0, 0, 0, 0);
        int node = four(m, 9);
        for (int party = 0; party < 3; party++) {
            m.bid(party, node);
        }
        m.let(2, false);
        m.open(1);
        m.let(2, true);
        m.rise(1);
        check.is(15, () -> m.demand(0));
        check.is(15, () -> m.demand(2));
        m.let(2, false);
        m.open(1);
        m.rise(1);
        check.is(0, () -> m.demand(2));
        m.let(2, true);
        m.rise(1);
        check.is(15, () -> m.demand(2));
    }

    private void partiesToldLaterHaveLimit4() {
        check.title("15: those that are told later have these, too: LIMIT 4");
        PivotalMarket m = Markets.withParties(2, 0, 0, 0, 0);
        int node = four(m, 9);
        m.bid(0, node);
        m.bid(1, node);
        m.open(1);
        m.rise(1);
        m.party();
        check.is(0, () -> m.demand(2));
        m.bid(2, node);
        m.rise(1);
        check.is(15, () -> m.demand(2));
    }

    private void goodsToldLaterHaveTheirReserve() {
        check.title("15: those that are told later have these, too: the RESERVE");
        PivotalMarket m = Markets.withParties(2, 3);
        m.open(5);
        check.is(1, () -> m.good(50));
        check.is(2, () -> m.good(0));
        check.is(50, () -> m.tag(1));
        check.is(0, () -> m.tag(2));
        int node = m.node(0, 2, 51, 0);
        m.bid(0, node);
        m.bid(1, node);
        m.rise(1);
        check.is(2, () -> m.demand(0));
        check.is(55, () -> m.tag(1));
        check.is(3, () -> m.tag(0));
        // Rounds without nodes can go before: the next good still begins with its reserve.
        PivotalMarket late = Markets.withParties(2, 3);
        late.open(5);
        late.rise(1);
        late.good(7);
        check.is(7, () -> late.tag(1));
        check.is(3, () -> late.tag(0));
    }

    private void atMostLimitGoods() {
        check.title("16: of those with at most LIMIT GOODS; its LIMIT is how many that has, from then on");
        PivotalMarket m = crowd(3, 0, 0, 0, 0);
        int all = four(m, 9);
        int pairOfGoods = m.node(0, 6, 50, 0);
        m.bid(2, pairOfGoods);
        m.open(1);
        m.rise(1);
        check.is(6, () -> m.demand(2));
        // Two of four are as many as it may have: of those that cost nothing the smallest number.
        m.bid(2, all);
        m.rise(1);
        check.is(6, () -> m.demand(2));
        m.bid(2, m.node(0, 8, 50, 0));
        m.rise(1);
        check.is(8, () -> m.demand(2));
        m.bid(2, pairOfGoods);
        m.rise(1);
        check.is(0, () -> m.demand(2));
        m.bid(2, all);
        m.rise(1);
        check.is(0, () -> m.demand(2));
    }

    private void limitOfThoseThatAreOutStays() {
        check.title("16: OUT ones DEMAND nothing (0; their LIMIT stays)");
        PivotalMarket m = crowd(4, 0, 0, 0, 0);
        int all = four(m, 9);
        m.bid(2, m.node(0, 6, 50, 0));
        m.bid(3, all);
        m.open(1);
        m.let(3, false);
        m.rise(1);
        check.is(6, () -> m.demand(2));
        check.is(0, () -> m.demand(3));
        m.let(2, false);
        m.let(3, true);
        m.rise(1);
        check.is(0, () -> m.demand(2));
        check.is(15, () -> m.demand(3));
        // 2 demanded 2, and then nothing as it was OUT: its LIMIT is 2.
        m.let(2, true);
        m.bid(2, all);
        m.rise(1);
        check.is(6, () -> m.demand(2));
    }

    private void limit0() {
        check.title("16: one that DEMANDED nothing has the LIMIT 0");
        PivotalMarket m = crowd(3, 0, 0);
        m.bid(2, -1);
        m.open(1);
        m.rise(1);
        check.is(0, () -> m.demand(2));
        m.bid(2, m.node(0, 2, 99, 0));
        m.rise(1);
        check.is(0, () -> m.demand(2));
        check.is(1, () -> m.demand(0));
    }

    private void ofSeveralTheSmallestNumber() {
        check.title("16: the greatest VALUE less PRICES (of several the smallest number)");
        PivotalMarket m = Markets.withParties(1, 5, 5);
        int first = m.node(0, 1, 5, 0);
        m.bid(0, first);
        m.open(1);
        m.rise(1);
        check.is(0, () -> m.demand(0));
        m.bid(0, m.node(0, 1, 6, 0));
        m.open(1);
        m.rise(1);
        check.is(1, () -> m.demand(0));
        m.bid(0, m.node(1, m.node(0, 1, 6, 0), m.node(0, 2, 6, 0), 0));
        m.open(1);
        m.rise(1);
        check.is(1, () -> m.demand(0));
        m.bid(0, m.node(1, m.node(0, 1, 6, 0), m.node(0, 2, 7, 0), 0));
        m.open(1);
        m.rise(1);
        check.is(2, () -> m.demand(0));
    }

    private void tagsAndDemands() {
        tagOfAGoodThatThereIs();
        tagIsNoneIfNoneBegan();
        demandOfAPartyThatThereIs();
        demandIs0WithoutARound();
    }

    private void tagOfAGoodThatThereIs() {
        check.title("17: no such GOOD");
        PivotalMarket none = new PivotalMarket();
        check.index(() -> none.tag(0));
        none.open(1);
        check.index(() -> none.tag(0));
        PivotalMarket m = Markets.full();
        check.index(() -> m.tag(-1));
        check.is(21, () -> m.tag(0));
        check.is(44, () -> m.tag(3));
        check.index(() -> m.tag(4));
    }

    private void tagIsNoneIfNoneBegan() {
        check.title("17: NONE, if none began");
        PivotalMarket m = Markets.withGoods(0, 50);
        check.is(-1, () -> m.tag(0));
        check.is(-1, () -> m.tag(1));
        check.argument(() -> m.open(0));
        check.is(-1, () -> m.tag(0));
        m.open(1);
        check.is(0, () -> m.tag(0));
        check.is(50, () -> m.tag(1));
        m.rise(1);
        check.is(50, () -> m.tag(1));
    }

    private void demandOfAPartyThatThereIs() {
        check.title("18: no such PARTY");
        check.index(() -> new PivotalMarket().demand(0));
        PivotalMarket m = Markets.full();
        check.index(() -> m.demand(-1));
        check.is(0, () -> m.demand(0));
        check.is(8, () -> m.demand(3));
        check.is(0, () -> m.demand(4));
        check.index(() -> m.demand(5));
    }

    private void demandIs0WithoutARound() {
        check.title("18: in the last ROUND; 0 without one");
        PivotalMarket m = crowd(2, 0);
        check.is(0, () -> m.demand(0));
        m.open(1);
        check.is(0, () -> m.demand(0));
        m.rise(1);
        check.is(1, () -> m.demand(0));
        // It is what it was in that ROUND, whatever has changed since.
        m.let(0, false);
        m.bid(1, -1);
        check.is(1, () -> m.demand(0));
        check.is(1, () -> m.demand(1));
        check.is(2, m::party);
        check.is(0, () -> m.demand(2));
        m.open(1);
        check.is(0, () -> m.demand(1));
    }
}
