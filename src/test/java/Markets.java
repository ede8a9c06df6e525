/** Markets that tests begin with. */
final class Markets {
    private Markets() {
    }

    /** Goods with these reserves. */
    static PivotalMarket withGoods(int... reserves) {
        PivotalMarket m = new PivotalMarket();
        for (int reserve : reserves) {
            m.good(reserve);
        }
        return m;
    }

    /** Goods with these reserves, and parties without bids. */
    static PivotalMarket withParties(int parties, int... reserves) {
        PivotalMarket m = withGoods(reserves);
        for (int i = 0; i < parties; i++) {
            m.party();
        }
        return m;
    }

    /** The party wants the set for that amount, and nothing else. */
    static int wants(PivotalMarket m, int party, int set, int amount) {
        int node = m.node(0, set, amount, 0);
        m.bid(party, node);
        return node;
    }

    /** The party wants each of the goods that it has an amount above 0 for, and any of them together for the sum. */
    static int addsUp(PivotalMarket m, int party, int... amounts) {
        int node = -1;
        for (int good = 0; good < amounts.length; good++) {
            if (amounts[good] > 0) {
                int want = m.node(0, 1 << good, amounts[good], 0);
                node = node < 0 ? want : m.node(2, node, want, 0);
            }
        }
        m.bid(party, node);
        return node;
    }

    /** Three parties, two goods with reserves 3 and 4: 0 wants both for 20, 1 the first for 9, 2 the second for 8. */
    static PivotalMarket three() {
        PivotalMarket m = withParties(3, 3, 4);
        wants(m, 0, 3, 20);
        wants(m, 1, 1, 9);
        wants(m, 2, 2, 8);
        return m;
    }

    /** A ballot is told by the digits of its candidates, the first one first. */
    static PivotalMarket withBallots(String... ballots) {
        PivotalMarket m = new PivotalMarket();
        cast(m, ballots);
        return m;
    }

    static void cast(PivotalMarket m, String... ballots) {
        for (String ballot : ballots) {
            m.ballot(candidateAt(ballot, 0), candidateAt(ballot, 1), candidateAt(ballot, 2));
        }
    }

    private static int candidateAt(String ballot, int place) {
        return place < ballot.length() ? ballot.charAt(place) - '0' : -1;
    }

    /**
     * All that there can be: 4 goods with reserves 1 to 4, 5 parties, 30 nodes, 8 ballots, a book of 8.
     * Parties 0 to 3 want a good each, for 20, 30, 40 and 50, and 4 wants all for 99.
     */
    static PivotalMarket full() {
        PivotalMarket m = withParties(5, 1, 2, 3, 4);
        for (int party = 0; party < 4; party++) {
            wants(m, party, 1 << party, 20 + 10 * party);
        }
        wants(m, 4, 15, 99);
        for (int node = 5; node < 30; node++) {
            m.node(4, node - 5, 6 * node, 0);
        }
        for (int good = 0; good < 4; good++) {
            for (int party = 0; party < 5; party++) {
                m.rank(good, party, 9);
            }
        }
        for (int k = 0; k < 8; k++) {
            m.ballot(k / 2, (k / 2 + 1) % 4, (k / 2 + 2) % 4);
            m.seal(k % 3);
        }
        m.open(20);
        m.rise(40);
        return m;
    }
}
