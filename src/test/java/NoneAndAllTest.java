/** None and all of what there can be: every question to markets without goods, parties or ballots, and to full ones. */
public final class NoneAndAllTest {
    private final Check check = new Check();

    public static void main(String[] args) {
        NoneAndAllTest all = new NoneAndAllTest();
        all.noGoodsAndNoParties();
        all.noGoods();
        all.noParties();
        all.noBids();
        all.nobodyIn();
        all.noBallots();
        all.emptyBook();
        all.full();
        all.check.end();
    }

    private void noGoodsAndNoParties() {
        check.title("no GOODS and no PARTIES");
        PivotalMarket m = new PivotalMarket();
        noPartyIsThere(m);
        noGoodIsThere(m);
        check.is(0, () -> m.worth(0));
        check.argument(() -> m.worth(1));
        risesOnce(m, 0);
    }

    private void noPartyIsThere(PivotalMarket m) {
        check.index(() -> m.bid(0, -1));
        check.index(() -> m.let(0, true));
        check.index(() -> m.value(0, 0));
        check.index(() -> m.won(0));
        check.index(() -> m.demand(0));
        check.index(() -> m.picks(0));
        check.index(() -> m.envies(0, 0));
        for (int rule = 0; rule <= 2; rule++) {
            int r = rule;
            check.index(() -> m.price(0, r));
            check.index(() -> m.gain(0, r, 4));
            check.index(() -> m.lie(0, r));
            check.index(() -> m.matched(0, r));
            check.index(() -> m.share(0, r, 0));
            check.is(-1, () -> m.blocks(r));
            check.is(-1, () -> m.pair(r));
            check.is(0.0, () -> m.meanPrice(r));
        }
    }

    private void noGoodIsThere(PivotalMarket m) {
        check.index(() -> m.tag(0));
        check.index(() -> m.rank(0, 0, 0));
        check.argument(() -> m.node(0, 1, 1, 0));
        check.is(0, () -> m.many(4));
    }

    private void risesOnce(PivotalMarket m, int in) {
        check.is(in, () -> m.open(20));
        check.is(1, () -> m.rise(40));
        check.is(1, () -> m.many(5));
        check.is(1, () -> m.many(6));
    }

    private void noGoods() {
        check.title("PARTIES without GOODS");
        PivotalMarket m = Markets.withParties(5);
        noGoodIsThere(m);
        risesOnce(m, 5);
        check.is(0, () -> m.worth(0));
        check.is(0, () -> m.worth(31));
        for (int party = 0; party < 5; party++) {
            getsNothing(m, party);
            int i = party;
            check.argument(() -> m.value(i, 1));
            check.is(0, () -> m.gain(i, 0, 8));
            check.is(-1, () -> m.lie(i, 0));
        }
        nothingBlocks(m);
    }

    private void getsNothing(PivotalMarket m, int party) {
        check.is(0, () -> m.won(party));
        check.is(0, () -> m.demand(party));
        check.is(0, () -> m.picks(party));
        for (int rule = 0; rule <= 2; rule++) {
            int r = rule;
            check.is(0, () -> m.price(party, r));
            check.is(-1, () -> m.matched(party, r));
            check.is(0, () -> m.share(party, r, 300));
        }
        for (int other = 0; other < 5; other++) {
            int j = other;
            check.is(false, () -> m.envies(party, j));
        }
    }

    private void nothingBlocks(PivotalMarket m) {
        for (int rule = 0; rule <= 2; rule++) {
            int r = rule;
            check.is(-1, () -> m.blocks(r));
            check.is(-1, () -> m.pair(r));
            check.is(0.0, () -> m.meanPrice(r));
        }
    }

    private void noParties() {
        check.title("GOODS without PARTIES");
        PivotalMarket m = Markets.withGoods(1, 2, 3, 50);
        noPartyIsThere(m);
        check.is(56, () -> m.worth(0));
        check.argument(() -> m.worth(1));
        check.is(15, () -> m.many(4));
        check.index(() -> m.rank(0, 0, 0));
        check.is(-1, () -> m.tag(3));
        risesOnce(m, 0);
        check.is(1, () -> m.tag(0));
        check.is(50, () -> m.tag(3));
    }

    private void noBids() {
        check.title("PARTIES and GOODS without BIDS");
        PivotalMarket m = Markets.withParties(5, 1, 2, 3, 50);
        risesOnce(m, 5);
        check.is(56, () -> m.worth(31));
        check.is(15, () -> m.many(4));
        nothingBlocks(m);
        for (int party = 0; party < 5; party++) {
            int i = party;
            check.is(0, () -> m.value(i, 15));
            check.is(0, () -> m.won(i));
            check.is(0, () -> m.demand(i));
            check.is(i < 4 ? 1 << i : 0, () -> m.picks(i));
            for (int rule = 0; rule <= 2; rule++) {
                int r = rule;
                check.is(0, () -> m.price(i, r));
                check.is(-1, () -> m.lie(i, r));
                check.is(0, () -> m.gain(i, r, 8));
                check.is(-1, () -> m.matched(i, r));
                check.is(0, () -> m.share(i, r, 300));
            }
        }
    }

    private void nobodyIn() {
        check.title("nobody IN");
        PivotalMarket m = Markets.full();
        for (int party = 0; party < 5; party++) {
            int i = party;
            check.is(4 - i, () -> m.let(i, false));
        }
        risesOnce(m, 0);
        check.is(0, () -> m.many(3));
        check.is(15, () -> m.many(4));
        check.is(140, () -> m.worth(31));
        check.is(10, () -> m.worth(0));
        nothingBlocks(m);
        for (int party = 0; party < 5; party++) {
            getsNothing(m, party);
            int i = party;
            check.index(() -> m.gain(i, 0, 4));
            check.index(() -> m.lie(i, 0));
        }
        check.is(99, () -> m.value(4, 15));
        check.is(15, () -> m.appeal(0));
    }

    private void noBallots() {
        check.title("no BALLOTS");
        PivotalMarket m = Markets.three();
        check.is(0, () -> m.many(7));
        check.state(m::take);
        for (int rule = 0; rule <= 4; rule++) {
            int r = rule;
            check.is(-1, () -> m.winner(r));
            check.index(() -> m.tips(0, r));
        }
        for (int candidate = 0; candidate <= 3; candidate++) {
            int c = candidate;
            check.is(0, () -> m.seats(c, 0, 30));
            check.is(0, () -> m.seats(c, 1, 1));
        }
        check.argument(() -> m.winner(5));
        check.argument(() -> m.seats(0, 2, 1));
    }

    private void emptyBook() {
        check.title("an empty BOOK");
        PivotalMarket m = Markets.three();
        check.is(0, () -> m.many(8));
        check.index(() -> m.appeal(0));
        check.index(() -> m.appeal(-1));
        check.argument(() -> m.seal(3));
        check.index(() -> m.appeal(0));
        check.is(0, () -> m.seal(2));
        check.is(0, () -> m.appeal(0));
        check.index(() -> m.appeal(1));
    }

    private void full() {
        check.title("all of what there can be");
        PivotalMarket m = Markets.full();
        check.state(() -> m.good(0));
        check.state(m::party);
        check.state(() -> m.node(0, 1, 1, 0));
        check.state(() -> m.ballot(0, -1, -1));
        check.state(() -> m.seal(0));
        check.state(() -> m.rise(1));
        check.is(140, () -> m.worth(31));
        check.is(99, () -> m.worth(16));
        check.is(0, () -> m.many(4));
        fullOfParties(m);
        fullOfRules(m);
        fullOfVotes(m);
    }

    private void fullOfParties(PivotalMarket m) {
        int[] won = {1, 2, 4, 8, 0};
        int[] demands = {0, 0, 0, 8, 0};
        int[][] prices = {{20, 30, 40, 50, 0}, {1, 2, 3, 9, 0}, {10, 16, 21, 29, 0}};
        int[][] lies = {{1, 1, 1, 1, -1}, {-1, -1, -1, -1, -1}, {1, 1, 1, 1, -1}};
        int[][] shares = {{8, 13, 17, 21, 41}, {20, 20, 20, 20, 20}, {10, 15, 20, 25, 30}};
        for (int party = 0; party < 5; party++) {
            int i = party;
            check.is(won[i], () -> m.won(i));
            check.is(won[i], () -> m.picks(i));
            check.is(demands[i], () -> m.demand(i));
            for (int rule = 0; rule <= 2; rule++) {
                int r = rule;
                check.is(prices[r][i], () -> m.price(i, r));
                check.is(lies[r][i], () -> m.lie(i, r));
                check.is(shares[r][i], () -> m.share(i, r, 100));
                check.is(i < 4 ? i : -1, () -> m.matched(i, r));
            }
            for (int other = 0; other < 5; other++) {
                int j = other;
                check.is(false, () -> m.envies(i, j));
            }
        }
    }

    private void fullOfRules(PivotalMarket m) {
        int[] blocks = {-1, 16, 16};
        double[] means = {28.0, 3.0, 15.2};
        for (int rule = 0; rule <= 2; rule++) {
            int r = rule;
            check.is(blocks[r], () -> m.blocks(r));
            check.is(-1, () -> m.pair(r));
            check.is(means[r], () -> m.meanPrice(r));
        }
        int[] tags = {21, 42, 43, 44};
        for (int good = 0; good < 4; good++) {
            int g = good;
            check.is(tags[g], () -> m.tag(g));
        }
        for (int k = 0; k < 8; k++) {
            int sealed = k;
            check.is(0, () -> m.appeal(sealed));
        }
    }

    private void fullOfVotes(PivotalMarket m) {
        for (int rule = 0; rule <= 4; rule++) {
            int r = rule;
            check.is(0, () -> m.winner(r));
            // 0 is first on these, and WINS.
            check.is(-1, () -> m.tips(0, r));
            check.is(-1, () -> m.tips(1, r));
        }
        int[] tips = {-1, -1, 2, 2, 3, 3, -1, -1};
        int[] seats = {2, 2, 2, 1};
        for (int number = 0; number < 8; number++) {
            int n = number;
            check.is(tips[n], () -> m.tips(n, 0));
            check.is(seats[n / 2], () -> m.seats(n / 2, n % 2, 7));
        }
    }
}
