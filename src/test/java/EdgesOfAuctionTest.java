/** Promises 9 to 14: each sentence that names an edge has a test of its own, on both sides of that edge. */
public final class EdgesOfAuctionTest {
    private static final int BID = 0;
    private static final int PIVOT = 1;
    private static final int HALF = 2;

    private final Check check = new Check();

    public static void main(String[] args) {
        EdgesOfAuctionTest all = new EdgesOfAuctionTest();
        all.whoWins();
        all.prices();
        all.blocking();
        all.lies();
        all.check.end();
    }

    private void whoWins() {
        worthOfASetOfParties();
        worthOfPartiesInOrOut();
        reservesOfGoodsThatNobodyGets();
        reserveHasToBeExceeded();
        firstPartyHasTheSmallestSet();
        thenTheNextOne();
        wonByThoseThatAreOut();
        wonByAPartyThatThereIs();
    }

    private void worthOfASetOfParties() {
        check.title("9: no set of PARTIES");
        for (int parties = 0; parties <= 5; parties++) {
            PivotalMarket m = Markets.withParties(parties, 3, 4);
            int all = (1 << parties) - 1;
            check.argument(() -> m.worth(-1));
            check.is(7, () -> m.worth(0));
            check.is(7, () -> m.worth(all));
            check.argument(() -> m.worth(all + 1));
            check.argument(() -> m.worth(Integer.MAX_VALUE));
        }
        check.is(0, () -> new PivotalMarket().worth(0));
    }

    private void worthOfPartiesInOrOut() {
        check.title("9: a set of PARTIES, IN or OUT");
        PivotalMarket m = Markets.three();
        check.is(20, () -> m.worth(7));
        for (int party = 0; party < 3; party++) {
            m.let(party, false);
        }
        check.is(20, () -> m.worth(7));
        check.is(20, () -> m.worth(1));
        check.is(17, () -> m.worth(6));
        check.is(7, () -> m.worth(0));
    }

    private void reservesOfGoodsThatNobodyGets() {
        check.title("9: and the RESERVES of GOODS that nobody gets");
        PivotalMarket m = Markets.withParties(1, 5, 50);
        check.is(55, () -> m.worth(1));
        Markets.wants(m, 0, 1, 6);
        check.is(56, () -> m.worth(1));
        Markets.wants(m, 0, 1, 4);
        check.is(55, () -> m.worth(1));
        Markets.wants(m, 0, 3, 56);
        check.is(56, () -> m.worth(1));
        check.is(55, () -> m.worth(0));
    }

    private void reserveHasToBeExceeded() {
        check.title("10: VALUE below, at and above the RESERVE");
        PivotalMarket m = Markets.withParties(1, 5);
        Markets.wants(m, 0, 1, 4);
        check.is(0, () -> m.won(0));
        check.is(1, () -> m.many(4));
        Markets.wants(m, 0, 1, 5);
        check.is(0, () -> m.won(0));
        check.is(1, () -> m.many(4));
        Markets.wants(m, 0, 1, 6);
        check.is(1, () -> m.won(0));
        check.is(0, () -> m.many(4));
    }

    private void firstPartyHasTheSmallestSet() {
        check.title("10: of several ways the PARTY with the smallest number has the smallest set");
        PivotalMarket m = Markets.withParties(2, 0, 0);
        int first = Markets.wants(m, 0, 1, 5);
        // The second good is worth nothing to it, and costs nothing: 1 is the smaller number than 3.
        check.is(1, () -> m.won(0));
        check.is(2, () -> m.many(4));
        m.bid(1, first);
        check.is(0, () -> m.won(0));
        check.is(1, () -> m.won(1));
        Markets.wants(m, 0, 1, 6);
        check.is(1, () -> m.won(0));
        check.is(0, () -> m.won(1));
        int second = m.node(0, 2, 5, 0);
        int either = m.node(1, first, second, 0);
        m.bid(0, either);
        m.bid(1, -1);
        check.is(1, () -> m.won(0));
        m.bid(0, m.node(1, first, m.node(0, 2, 6, 0), 0));
        check.is(2, () -> m.won(0));
    }

    private void thenTheNextOne() {
        check.title("10: then that of the next one, and so on");
        PivotalMarket m = Markets.withParties(5, 0, 0);
        int first = Markets.wants(m, 1, 1, 5);
        m.bid(3, first);
        m.bid(4, first);
        check.is(0, () -> m.won(1));
        check.is(0, () -> m.won(3));
        check.is(1, () -> m.won(4));
        m.let(4, false);
        check.is(0, () -> m.won(1));
        check.is(1, () -> m.won(3));
        // 0 has one good in each way; what 0 gets comes first, then 1 has the rest before 3.
        int either = m.node(1, first, m.node(0, 2, 5, 0), 0);
        m.bid(0, either);
        m.bid(1, either);
        m.bid(3, either);
        check.is(0, () -> m.won(0));
        check.is(1, () -> m.won(1));
        check.is(2, () -> m.won(3));
    }

    private void wonByThoseThatAreOut() {
        check.title("10: those that are OUT get 0, and pay 0");
        PivotalMarket m = Markets.three();
        check.is(3, () -> m.won(0));
        m.let(0, false);
        check.is(0, () -> m.won(0));
        for (int rule = 0; rule <= 2; rule++) {
            int r = rule;
            check.is(0, () -> m.price(0, r));
        }
        check.is(1, () -> m.won(1));
        m.let(0, true);
        check.is(3, () -> m.won(0));
        check.is(20, () -> m.price(0, BID));
    }

    private void wonByAPartyThatThereIs() {
        check.title("10: no such PARTY");
        check.index(() -> new PivotalMarket().won(0));
        PivotalMarket m = Markets.full();
        check.index(() -> m.won(-1));
        check.is(1, () -> m.won(0));
        check.is(0, () -> m.won(4));
        check.index(() -> m.won(5));
    }

    private void prices() {
        priceOfAPartyThatThereIs();
        priceByARuleThatThereIs();
        nothingWonNothingPaid();
        pivotIsReserveOrRival();
        halfIsRoundedDown();
    }

    private void priceOfAPartyThatThereIs() {
        check.title("11: no such PARTY");
        check.index(() -> new PivotalMarket().price(0, 0));
        PivotalMarket m = Markets.full();
        check.index(() -> m.price(-1, BID));
        check.is(20, () -> m.price(0, BID));
        check.is(0, () -> m.price(4, BID));
        check.index(() -> m.price(5, BID));
    }

    private void priceByARuleThatThereIs() {
        check.title("11: rule is 0 to 2");
        PivotalMarket m = Markets.full();
        check.argument(() -> m.price(3, -1));
        check.is(50, () -> m.price(3, BID));
        check.is(9, () -> m.price(3, PIVOT));
        check.is(29, () -> m.price(3, HALF));
        check.argument(() -> m.price(3, 3));
    }

    private void nothingWonNothingPaid() {
        check.title("11: one that is IN and won nothing pays 0");
        PivotalMarket m = Markets.full();
        for (int rule = 0; rule <= 2; rule++) {
            int r = rule;
            check.is(0, () -> m.price(4, r));
        }
    }

    private void pivotIsReserveOrRival() {
        check.title("11: PIVOT: the WORTH among all others that are IN, less that without V");
        PivotalMarket m = Markets.withParties(3, 6);
        Markets.wants(m, 0, 1, 10);
        check.is(6, () -> m.price(0, PIVOT));
        Markets.wants(m, 1, 1, 5);
        check.is(6, () -> m.price(0, PIVOT));
        Markets.wants(m, 1, 1, 7);
        check.is(7, () -> m.price(0, PIVOT));
        Markets.wants(m, 1, 1, 10);
        check.is(0, () -> m.price(0, PIVOT));
        check.is(10, () -> m.price(1, PIVOT));
        // A rival that is OUT counts for nothing.
        m.let(1, false);
        check.is(6, () -> m.price(0, PIVOT));
    }

    private void halfIsRoundedDown() {
        check.title("11: HALF: half of the sum of both, rounded down");
        PivotalMarket m = Markets.withParties(1, 3);
        Markets.wants(m, 0, 1, 9);
        check.is(6, () -> m.price(0, HALF));
        Markets.wants(m, 0, 1, 10);
        check.is(6, () -> m.price(0, HALF));
        Markets.wants(m, 0, 1, 11);
        check.is(7, () -> m.price(0, HALF));
        PivotalMarket free = Markets.withParties(1, 0);
        Markets.wants(free, 0, 1, 1);
        check.is(0, () -> free.price(0, HALF));
    }

    private void blocking() {
        blocksARuleThatThereIs();
        nobodyBlocks();
        moreThanAllThatTheyHave();
        sellerHasReserves();
        smallestSetAsANumber();
        onlyThoseThatAreInBlock();
    }

    private void blocksARuleThatThereIs() {
        check.title("12: rule is 0 to 2");
        PivotalMarket m = Markets.full();
        check.argument(() -> m.blocks(-1));
        check.is(-1, () -> m.blocks(BID));
        check.is(16, () -> m.blocks(PIVOT));
        check.is(16, () -> m.blocks(HALF));
        check.argument(() -> m.blocks(3));
    }

    private void nobodyBlocks() {
        check.title("12: one at least; NONE without one");
        PivotalMarket nobodyIn = Markets.full();
        for (int party = 0; party < 5; party++) {
            nobodyIn.let(party, false);
        }
        PivotalMarket noParties = Markets.withGoods(5);
        PivotalMarket noGoods = Markets.withParties(5);
        for (int rule = 0; rule <= 2; rule++) {
            int r = rule;
            check.is(-1, () -> new PivotalMarket().blocks(r));
            check.is(-1, () -> noParties.blocks(r));
            check.is(-1, () -> noGoods.blocks(r));
            check.is(-1, () -> nobodyIn.blocks(r));
        }
    }

    /** 1 and 2 want a good each for 10, and 0 wants both for so much. By HALF these pay 5 each, if that is 10. */
    private static PivotalMarket againstTwo(int amount, int... reserves) {
        PivotalMarket m = Markets.withParties(3, reserves);
        Markets.wants(m, 0, 3, amount);
        Markets.wants(m, 1, 1, 10);
        Markets.wants(m, 2, 2, 10);
        return m;
    }

    private void moreThanAllThatTheyHave() {
        check.title("12: the WORTH among them is more than all that they have");
        check.is(-1, () -> againstTwo(9, 0, 0).blocks(HALF));
        check.is(-1, () -> againstTwo(10, 0, 0).blocks(HALF));
        check.is(1, () -> againstTwo(11, 0, 0).blocks(HALF));
        check.is(1, () -> againstTwo(1, 0, 0).blocks(PIVOT));
        // Of 11 each pays 1 by PIVOT, of 15 each 5, of 20 each 10.
        check.is(1, () -> againstTwo(11, 0, 0).blocks(PIVOT));
        check.is(1, () -> againstTwo(19, 0, 0).blocks(PIVOT));
        check.is(-1, () -> againstTwo(20, 0, 0).blocks(PIVOT));
    }

    private void sellerHasReserves() {
        check.title("12: what the seller has (all PRICES, and the RESERVES of GOODS that nobody won)");
        check.is(-1, () -> againstTwo(10, 0, 0, 7, 9).blocks(HALF));
        check.is(1, () -> againstTwo(11, 0, 0, 7, 9).blocks(HALF));
        PivotalMarket m = Markets.withParties(1, 7);
        check.is(-1, () -> m.blocks(BID));
        Markets.wants(m, 0, 1, 8);
        check.is(-1, () -> m.blocks(BID));
        check.is(-1, () -> m.blocks(PIVOT));
    }

    private void smallestSetAsANumber() {
        check.title("12: the smallest set, as a number");
        // By PIVOT 0 and 1 pay nothing, and 2 pays 9: 3 alone has 9 as well, with 2 they have more than 9 and 1.
        PivotalMarket m = Markets.withParties(5, 0, 0, 0);
        Markets.wants(m, 0, 1, 10);
        Markets.wants(m, 1, 2, 10);
        Markets.wants(m, 2, 4, 10);
        Markets.wants(m, 3, 3, 9);
        Markets.wants(m, 4, 4, 9);
        check.is(0, () -> m.price(0, PIVOT));
        check.is(0, () -> m.price(1, PIVOT));
        check.is(9, () -> m.price(2, PIVOT));
        check.is(12, () -> m.blocks(PIVOT));
        Markets.wants(m, 3, 3, 10);
        check.is(8, () -> m.blocks(PIVOT));
    }

    private void onlyThoseThatAreInBlock() {
        check.title("12: a set of PARTIES that are IN");
        PivotalMarket m = Markets.full();
        check.is(16, () -> m.blocks(PIVOT));
        m.let(4, false);
        check.is(-1, () -> m.blocks(PIVOT));
        m.let(4, true);
        check.is(16, () -> m.blocks(PIVOT));
    }

    private void lies() {
        gainOfAPartyThatIsIn();
        gainByARuleThatThereIs();
        quartersAre0To8();
        truthGainsNothing();
        toldIsRoundedDown();
        lieWhereOthersAreOut();
        lieOfAPartyThatIsIn();
        lieByARuleThatThereIs();
        gainIsAbove0();
        greatestGainFewestQuarters();
    }

    private void gainOfAPartyThatIsIn() {
        check.title("13: no such PARTY that is IN");
        check.index(() -> new PivotalMarket().gain(0, 0, 0));
        PivotalMarket m = Markets.full();
        check.index(() -> m.gain(-1, BID, 4));
        check.is(0, () -> m.gain(0, BID, 4));
        check.is(0, () -> m.gain(4, BID, 4));
        check.index(() -> m.gain(5, BID, 4));
        m.let(4, false);
        check.index(() -> m.gain(4, BID, 4));
        m.let(4, true);
        check.is(0, () -> m.gain(4, BID, 4));
    }

    private void gainByARuleThatThereIs() {
        check.title("13: rule is 0 to 2");
        PivotalMarket m = Markets.full();
        check.argument(() -> m.gain(0, -1, 1));
        // It tells 5 in place of 20, and wins; by PIVOT it pays 1 all the same, by HALF 3 in place of 10.
        check.is(15, () -> m.gain(0, BID, 1));
        check.is(0, () -> m.gain(0, PIVOT, 1));
        check.is(7, () -> m.gain(0, HALF, 1));
        check.argument(() -> m.gain(0, 3, 1));
    }

    private void quartersAre0To8() {
        check.title("13: quarters are 0 to 8");
        PivotalMarket m = Markets.full();
        check.argument(() -> m.gain(0, BID, -1));
        check.is(0, () -> m.gain(0, BID, 0));
        check.is(-19, () -> m.gain(0, PIVOT, 0));
        check.is(-20, () -> m.gain(0, BID, 8));
        check.is(-10, () -> m.gain(0, HALF, 8));
        check.argument(() -> m.gain(0, BID, 9));
        // 4 tells 173 in place of 99, which is more than 140 are, and pays that, or 140, or half of both.
        check.is(-74, () -> m.gain(4, BID, 7));
        check.is(-41, () -> m.gain(4, PIVOT, 7));
        check.is(-57, () -> m.gain(4, HALF, 7));
    }

    private void truthGainsNothing() {
        check.title("13: four quarters are no LIE");
        PivotalMarket m = Markets.three();
        for (int rule = 0; rule <= 2; rule++) {
            int r = rule;
            for (int party = 0; party < 3; party++) {
                int i = party;
                check.is(0, () -> m.gain(i, r, 4));
            }
        }
    }

    private void toldIsRoundedDown() {
        check.title("13: it tells k * VALUE(S) / 4, rounded down");
        PivotalMarket m = Markets.withParties(1, 2);
        Markets.wants(m, 0, 1, 11);
        // A quarter of 11 is told as 2, which isn't above the reserve; one of 12 is 3, and of 15 still 3.
        check.is(0, () -> m.gain(0, BID, 1));
        Markets.wants(m, 0, 1, 12);
        check.is(9, () -> m.gain(0, BID, 1));
        Markets.wants(m, 0, 1, 15);
        check.is(12, () -> m.gain(0, BID, 1));
        check.is(4, () -> m.gain(0, BID, 3));
        check.is(8, () -> m.gain(0, BID, 2));
        check.is(-3, () -> m.gain(0, BID, 5));
    }

    private void lieWhereOthersAreOut() {
        check.title("13: who wins, and the PRICES, are by that, among those that are IN");
        PivotalMarket m = Markets.withParties(3, 0);
        Markets.wants(m, 0, 1, 9);
        Markets.wants(m, 1, 1, 8);
        Markets.wants(m, 2, 1, 7);
        // It tells 10, and pays 9 for what is 8 to it.
        check.is(-1, () -> m.gain(1, PIVOT, 5));
        check.is(0, () -> m.gain(1, PIVOT, 4));
        m.let(0, false);
        check.is(0, () -> m.gain(1, PIVOT, 5));
        // It tells 6 in place of 8, and loses what it had for 7.
        check.is(-1, () -> m.gain(1, PIVOT, 3));
        m.let(2, false);
        check.is(0, () -> m.gain(1, PIVOT, 2));
        check.is(2, () -> m.gain(1, HALF, 2));
        m.let(0, true);
        m.let(2, true);
        check.is(-1, () -> m.gain(1, PIVOT, 5));
        check.is(0, () -> m.gain(2, PIVOT, 5));
        check.is(-2, () -> m.gain(2, PIVOT, 6));
    }

    private void lieOfAPartyThatIsIn() {
        check.title("14: no such PARTY that is IN");
        check.index(() -> new PivotalMarket().lie(0, 0));
        PivotalMarket m = Markets.full();
        check.index(() -> m.lie(-1, BID));
        check.is(1, () -> m.lie(0, BID));
        check.is(-1, () -> m.lie(4, BID));
        check.index(() -> m.lie(5, BID));
        m.let(0, false);
        check.index(() -> m.lie(0, BID));
        m.let(0, true);
        check.is(1, () -> m.lie(0, BID));
    }

    private void lieByARuleThatThereIs() {
        check.title("14: rule is 0 to 2");
        PivotalMarket m = Markets.full();
        check.argument(() -> m.lie(0, -1));
        check.is(1, () -> m.lie(0, BID));
        check.is(-1, () -> m.lie(0, PIVOT));
        check.is(1, () -> m.lie(0, HALF));
        check.argument(() -> m.lie(0, 3));
    }

    private void gainIsAbove0() {
        check.title("14: if that is above 0; NONE without one");
        PivotalMarket m = Markets.withParties(1, 0);
        check.is(-1, () -> m.lie(0, BID));
        // 1, 2 and 3 quarters of 1 are told as 0: it wins nothing, and pays nothing.
        Markets.wants(m, 0, 1, 1);
        check.is(-1, () -> m.lie(0, BID));
        // 2 quarters of 2 are 1: a gain of 1.
        Markets.wants(m, 0, 1, 2);
        check.is(1, () -> m.gain(0, BID, 2));
        check.is(2, () -> m.lie(0, BID));
    }

    private void greatestGainFewestQuarters() {
        check.title("14: the greatest GAIN (the fewest ones of several)");
        PivotalMarket m = Markets.withParties(2, 0);
        Markets.wants(m, 1, 1, 2);
        // 2 and 3 quarters of 2 are 1 both.
        check.is(1, () -> m.gain(1, BID, 3));
        check.is(2, () -> m.lie(1, BID));
        Markets.wants(m, 1, 1, 8);
        check.is(1, () -> m.lie(1, BID));
        Markets.wants(m, 0, 1, 3);
        check.is(2, () -> m.lie(1, BID));
        Markets.wants(m, 0, 1, 5);
        check.is(3, () -> m.lie(1, BID));
        // As much as the rival: 0 gets the smaller set, none; and what 1 tells wins by less than its truth.
        Markets.wants(m, 0, 1, 6);
        check.is(3, () -> m.lie(1, BID));
        Markets.wants(m, 0, 1, 7);
        check.is(-1, () -> m.lie(1, BID));
    }
}
