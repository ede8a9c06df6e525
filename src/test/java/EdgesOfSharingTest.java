/** Promises 19 to 23: each sentence that names an edge has a test of its own, on both sides of that edge. */
public final class EdgesOfSharingTest {
    private static final int PARTIES = 0;
    private static final int GOODS = 1;
    private static final int RINGS = 2;
    private static final int PART = 0;
    private static final int EVEN = 1;
    private static final int OLD = 2;

    private final Check check = new Check();

    public static void main(String[] args) {
        EdgesOfSharingTest all = new EdgesOfSharingTest();
        all.matchings();
        all.rings();
        all.pairs();
        all.shares();
        all.picksAndEnvy();
        all.check.end();
    }

    private void matched(PivotalMarket m, int rule, int... due) {
        for (int party = 0; party < due.length; party++) {
            int i = party;
            check.is(due[party], () -> m.matched(i, rule));
        }
    }

    private void matchings() {
        matchedForAPartyThatThereIs();
        matchedByARuleThatThereIs();
        noneToBeHad();
        likesAbove0();
        likesOfAsGreatOnesTheSmallerNumber();
        wouldRatherHaveTheSmallerRank();
        eachHasOneAtMost();
        onlyThoseThatAreIn();
    }

    private void matchedForAPartyThatThereIs() {
        check.title("19: no such PARTY");
        check.index(() -> new PivotalMarket().matched(0, PARTIES));
        PivotalMarket m = Markets.full();
        check.index(() -> m.matched(-1, PARTIES));
        check.is(0, () -> m.matched(0, PARTIES));
        check.is(-1, () -> m.matched(4, PARTIES));
        check.index(() -> m.matched(5, PARTIES));
    }

    private void matchedByARuleThatThereIs() {
        check.title("19: rule is 0 to 2");
        // Each party would like another good than that which would rather have it, and by rings all trade.
        PivotalMarket m = Markets.withParties(2, 0, 0);
        Markets.addsUp(m, 0, 9, 5);
        Markets.addsUp(m, 1, 4, 8);
        m.rank(0, 0, 9);
        m.rank(1, 1, 9);
        check.argument(() -> m.matched(0, -1));
        matched(m, PARTIES, 0, 1);
        matched(m, GOODS, 1, 0);
        matched(m, RINGS, 0, 1);
        check.argument(() -> m.matched(0, 3));
    }

    private void noneToBeHad() {
        check.title("19: NONE without one: no GOODS, no BIDS, more PARTIES than GOODS");
        PivotalMarket noGoods = Markets.withParties(5);
        PivotalMarket noBids = Markets.withParties(5, 0, 0, 0, 0);
        PivotalMarket one = Markets.withParties(5, 0);
        one.node(0, 1, 9, 0);
        for (int party = 0; party < 5; party++) {
            one.bid(party, 0);
        }
        for (int rule = 0; rule <= 2; rule++) {
            matched(noGoods, rule, -1, -1, -1, -1, -1);
            matched(noBids, rule, -1, -1, -1, -1, -1);
            matched(one, rule, 0, -1, -1, -1, -1);
        }
        one.rank(0, 0, 1);
        for (int rule = 0; rule <= 2; rule++) {
            matched(one, rule, -1, 0, -1, -1, -1);
        }
    }

    private void likesAbove0() {
        check.title("19: LIKES a GOOD, if its VALUE of that alone is above 0");
        PivotalMarket m = Markets.withParties(1, 50, 50);
        Markets.wants(m, 0, 3, 99);
        for (int rule = 0; rule <= 2; rule++) {
            matched(m, rule, -1);
        }
        int least = Markets.wants(m, 0, 2, 1);
        for (int rule = 0; rule <= 2; rule++) {
            matched(m, rule, 1);
        }
        m.bid(0, m.node(4, least, 0, 0));
        for (int rule = 0; rule <= 2; rule++) {
            matched(m, rule, -1);
        }
    }

    private void likesOfAsGreatOnesTheSmallerNumber() {
        check.title("19: more, if it is greater, of as great ones the smaller number");
        PivotalMarket m = Markets.withParties(1, 0, 0, 0, 0);
        Markets.addsUp(m, 0, 5, 6, 6, 5);
        for (int rule = 0; rule <= 2; rule++) {
            matched(m, rule, 1);
        }
        Markets.addsUp(m, 0, 5, 6, 6, 7);
        for (int rule = 0; rule <= 2; rule++) {
            matched(m, rule, 3);
        }
        Markets.addsUp(m, 0, 7, 6, 6, 7);
        for (int rule = 0; rule <= 2; rule++) {
            matched(m, rule, 0);
        }
    }

    private void wouldRatherHaveTheSmallerRank() {
        check.title("19: would rather have a smaller one, of as small ones the smaller number");
        PivotalMarket m = Markets.withParties(5, 0, 0, 0, 0);
        m.node(0, 8, 1, 0);
        for (int party = 0; party < 5; party++) {
            m.bid(party, 0);
            m.rank(3, party, 9);
        }
        for (int rule = 0; rule <= 2; rule++) {
            matched(m, rule, 3, -1, -1, -1, -1);
        }
        m.rank(3, 4, 8);
        for (int rule = 0; rule <= 2; rule++) {
            matched(m, rule, -1, -1, -1, -1, 3);
        }
        m.rank(3, 2, 8);
        for (int rule = 0; rule <= 2; rule++) {
            matched(m, rule, -1, -1, 3, -1, -1);
        }
        // The greatest rank, the last party and the last good: still one to have.
        PivotalMarket last = Markets.withParties(5, 0, 0, 0, 0);
        Markets.wants(last, 4, 8, 1);
        last.rank(3, 4, 9);
        for (int rule = 0; rule <= 2; rule++) {
            matched(last, rule, -1, -1, -1, -1, 3);
        }
        // The ranks of another good are of no matter.
        m.rank(2, 1, 0);
        m.rank(3, 4, 0);
        for (int rule = 0; rule <= 2; rule++) {
            matched(m, rule, -1, -1, -1, -1, 3);
        }
    }

    private void eachHasOneAtMost() {
        check.title("19: each has one at most");
        PivotalMarket m = Markets.withParties(2, 0, 0, 0, 0);
        int all = Markets.addsUp(m, 0, 9, 8, 7, 6);
        for (int rule = 0; rule <= 2; rule++) {
            matched(m, rule, 0, -1);
        }
        m.bid(1, all);
        for (int rule = 0; rule <= 2; rule++) {
            matched(m, rule, 0, 1);
        }
        PivotalMarket full = Markets.withParties(5, 0, 0, 0, 0);
        int each = Markets.addsUp(full, 0, 9, 8, 7, 6);
        for (int party = 1; party < 5; party++) {
            full.bid(party, each);
            for (int good = 0; good < 4; good++) {
                full.rank(good, party, 5 - party);
                full.rank(good, 0, 5);
            }
        }
        for (int rule = 0; rule <= 2; rule++) {
            matched(full, rule, -1, 3, 2, 1, 0);
        }
    }

    private void onlyThoseThatAreIn() {
        check.title("19: of PARTIES that are IN");
        PivotalMarket m = Markets.full();
        m.let(1, false);
        for (int rule = 0; rule <= 2; rule++) {
            matched(m, rule, 0, -1, 2, 3, -1);
        }
        for (int party = 0; party < 5; party++) {
            m.let(party, false);
        }
        for (int rule = 0; rule <= 2; rule++) {
            matched(m, rule, -1, -1, -1, -1, -1);
        }
        // One that is OUT keeps no good from one that is IN, though that would rather have it.
        PivotalMarket n = Markets.withParties(2, 0);
        Markets.wants(n, 0, 1, 9);
        n.bid(1, 0);
        n.let(0, false);
        for (int rule = 0; rule <= 2; rule++) {
            matched(n, rule, -1, 0);
        }
    }

    private void rings() {
        longestRing();
        leavesWithoutOne();
        whetherThatLikesItOrNot();
    }

    private void longestRing() {
        check.title("19: RINGS: a ring of four PARTIES and four GOODS, and one of one");
        PivotalMarket m = Markets.withParties(5, 0, 0, 0, 0);
        for (int party = 0; party < 4; party++) {
            int[] amounts = {1, 1, 1, 1};
            amounts[(party + 1) % 4] = 9;
            Markets.addsUp(m, party, amounts);
            for (int good = 0; good < 4; good++) {
                m.rank(good, party, good == party ? 0 : 5);
            }
        }
        for (int good = 0; good < 4; good++) {
            m.rank(good, 4, 9);
        }
        matched(m, RINGS, 1, 2, 3, 0, -1);
        // Goods propose, each to another party that has none: nobody can say no.
        matched(m, GOODS, 0, 1, 2, 3, -1);
        matched(m, PARTIES, 1, 2, 3, 0, -1);
    }

    private void leavesWithoutOne() {
        check.title("19: RINGS: leaves without one, if there is none");
        PivotalMarket m = Markets.withParties(3, 0, 0);
        Markets.wants(m, 1, 1, 5);
        Markets.wants(m, 2, 1, 5);
        m.rank(0, 1, 8);
        m.rank(0, 2, 9);
        // The first good would rather have 0, which likes nothing, and leaves.
        matched(m, RINGS, -1, 0, -1);
        m.rank(0, 1, 9);
        m.rank(0, 2, 8);
        matched(m, RINGS, -1, -1, 0);
        // Likewise the last one.
        PivotalMarket n = Markets.withParties(5, 0);
        Markets.wants(n, 3, 1, 5);
        for (int party = 0; party < 4; party++) {
            n.rank(0, party, 9);
        }
        matched(n, RINGS, -1, -1, -1, 0, -1);
    }

    private void whetherThatLikesItOrNot() {
        check.title("19: RINGS: GOODS point to PARTIES (whether that LIKES it or not)");
        matched(trading(), RINGS, -1, -1, 3, 2, -1);
        matched(trading(), PARTIES, -1, -1, -1, 2, 3);
        matched(trading(), GOODS, -1, -1, -1, 2, 3);
    }

    /**
     * 2 and 4 like the last good, 3 the one before. That would rather have 2, and the last good 3: by rings these
     * two trade, though the last good would rather have 4 than 2.
     */
    private static PivotalMarket trading() {
        PivotalMarket m = Markets.withParties(5, 0, 0, 0, 0);
        Markets.wants(m, 2, 8, 5);
        m.bid(4, 0);
        Markets.wants(m, 3, 4, 5);
        int[] ofThird = {9, 9, 0, 1, 1};
        int[] ofLast = {9, 9, 3, 1, 2};
        for (int party = 0; party < 5; party++) {
            m.rank(2, party, ofThird[party]);
            m.rank(3, party, ofLast[party]);
        }
        return m;
    }

    private void pairs() {
        pairByARuleThatThereIs();
        noPair();
        rankOfTheOneThatItHas();
        noneIsLeast();
        firstByPartiesThenByGoods();
        pairOfAPartyThatIsIn();
    }

    private void pairByARuleThatThereIs() {
        check.title("20: rule is 0 to 2");
        PivotalMarket m = trading();
        check.argument(() -> m.pair(-1));
        check.is(-1, () -> m.pair(PARTIES));
        check.is(-1, () -> m.pair(GOODS));
        check.is(43, () -> m.pair(RINGS));
        check.argument(() -> m.pair(3));
    }

    private void noPair() {
        check.title("20: NONE without one");
        PivotalMarket full = Markets.full();
        PivotalMarket noGoods = Markets.withParties(5);
        PivotalMarket noParties = Markets.withGoods(0, 0, 0, 0);
        for (int rule = 0; rule <= 2; rule++) {
            int r = rule;
            check.is(-1, () -> new PivotalMarket().pair(r));
            check.is(-1, () -> noGoods.pair(r));
            check.is(-1, () -> noParties.pair(r));
            check.is(-1, () -> full.pair(r));
        }
    }

    private void rankOfTheOneThatItHas() {
        check.title("20: or would rather have it than the one that it has");
        PivotalMarket m = trading();
        check.is(43, () -> m.pair(RINGS));
        // As small a rank: 2 is the smaller number, and the good keeps it.
        m.rank(3, 4, 3);
        check.is(-1, () -> m.pair(RINGS));
        m.rank(3, 4, 2);
        check.is(43, () -> m.pair(RINGS));
    }

    private void noneIsLeast() {
        check.title("20: if it LIKES it more than what it has (none is least)");
        PivotalMarket m = trading();
        // 4 likes the last good for 1 only, and has none; then it has the first one, and likes that more.
        int last = Markets.wants(m, 4, 8, 1);
        check.is(43, () -> m.pair(RINGS));
        int first = m.node(0, 1, 2, 0);
        m.bid(4, m.node(2, first, last, 0));
        check.is(0, () -> m.matched(4, RINGS));
        check.is(-1, () -> m.pair(RINGS));
        m.bid(4, m.node(2, m.node(0, 1, 1, 0), m.node(0, 8, 2, 0), 0));
        check.is(0, () -> m.matched(4, RINGS));
        check.is(43, () -> m.pair(RINGS));
        // As great ones: it likes the smaller number more, and that it has.
        m.bid(4, m.node(2, m.node(0, 1, 1, 0), last, 0));
        check.is(-1, () -> m.pair(RINGS));
    }

    private void firstByPartiesThenByGoods() {
        check.title("20: the first PAIR, by PARTIES, then by GOODS");
        // 0 and 1 trade what they have for what they like; 2 and 3 like both, and both goods would rather have them.
        PivotalMarket m = Markets.withParties(4, 0, 0);
        Markets.wants(m, 0, 2, 9);
        Markets.wants(m, 1, 1, 9);
        int both = Markets.addsUp(m, 2, 5, 5);
        int[] ofFirst = {0, 3, 2, 2};
        int[] ofSecond = {3, 0, 2, 2};
        for (int party = 0; party < 4; party++) {
            m.rank(0, party, ofFirst[party]);
            m.rank(1, party, ofSecond[party]);
        }
        m.bid(3, both);
        check.is(1, () -> m.matched(0, RINGS));
        check.is(0, () -> m.matched(1, RINGS));
        check.is(20, () -> m.pair(RINGS));
        m.bid(2, -1);
        check.is(30, () -> m.pair(RINGS));
        m.rank(0, 3, 4);
        check.is(31, () -> m.pair(RINGS));
        m.bid(2, both);
        check.is(20, () -> m.pair(RINGS));
        m.rank(0, 2, 4);
        check.is(21, () -> m.pair(RINGS));
        // The first party of all, and the first good.
        PivotalMarket first = Markets.withParties(3, 0, 0);
        Markets.wants(first, 0, 1, 5);
        first.bid(2, 0);
        Markets.wants(first, 1, 2, 5);
        int[] ofNear = {2, 1, 3};
        int[] ofFar = {9, 1, 0};
        for (int party = 0; party < 3; party++) {
            first.rank(0, party, ofNear[party]);
            first.rank(1, party, ofFar[party]);
        }
        matched(first, RINGS, -1, 1, 0);
        check.is(0, () -> first.pair(RINGS));
    }

    private void pairOfAPartyThatIsIn() {
        check.title("20: a PARTY that is IN");
        PivotalMarket m = trading();
        m.let(4, false);
        check.is(-1, () -> m.pair(RINGS));
        m.let(4, true);
        check.is(43, () -> m.pair(RINGS));
    }

    private void shares() {
        shareOfAPartyThatThereIs();
        shareByARuleThatThereIs();
        estateIs0To300();
        allClaimsOrMore();
        shareOfOneThatIsOut();
        noClaims();
        greatestRests();
        evenToTheLeastSoFar();
        halfTheClaimsRoundedDown();
        oldGoesOnByWhatIsMissing();
    }

    /** One good, and parties that claim so much. */
    private static PivotalMarket claims(int... claims) {
        PivotalMarket m = Markets.withParties(claims.length, 0);
        for (int party = 0; party < claims.length; party++) {
            if (claims[party] > 0) {
                Markets.wants(m, party, 1, claims[party]);
            }
        }
        return m;
    }

    private void shared(PivotalMarket m, int rule, int estate, int... due) {
        for (int party = 0; party < due.length; party++) {
            int i = party;
            check.is(due[party], () -> m.share(i, rule, estate));
        }
    }

    private void shareOfAPartyThatThereIs() {
        check.title("21: no such PARTY");
        check.index(() -> new PivotalMarket().share(0, PART, 0));
        PivotalMarket m = Markets.full();
        check.index(() -> m.share(-1, PART, 100));
        check.is(8, () -> m.share(0, PART, 100));
        check.is(41, () -> m.share(4, PART, 100));
        check.index(() -> m.share(5, PART, 100));
    }

    private void shareByARuleThatThereIs() {
        check.title("21: rule is 0 to 2");
        PivotalMarket m = Markets.full();
        check.argument(() -> m.share(4, -1, 100));
        shared(m, PART, 100, 8, 13, 17, 21, 41);
        shared(m, EVEN, 100, 20, 20, 20, 20, 20);
        shared(m, OLD, 100, 10, 15, 20, 25, 30);
        check.argument(() -> m.share(4, 3, 100));
    }

    private void estateIs0To300() {
        check.title("21: ESTATE (0 to 300)");
        PivotalMarket m = claims(99, 99, 99, 99, 99);
        for (int rule = 0; rule <= 2; rule++) {
            int r = rule;
            check.argument(() -> m.share(0, r, -1));
            shared(m, rule, 0, 0, 0, 0, 0, 0);
            shared(m, rule, 1, 1, 0, 0, 0, 0);
            shared(m, rule, 5, 1, 1, 1, 1, 1);
            shared(m, rule, 6, 2, 1, 1, 1, 1);
            shared(m, rule, 299, 60, 60, 60, 60, 59);
            shared(m, rule, 300, 60, 60, 60, 60, 60);
            check.argument(() -> m.share(0, r, 301));
        }
    }

    private void allClaimsOrMore() {
        check.title("21: if the ESTATE is all CLAIMS or more, each gets its CLAIM; nobody gets more");
        PivotalMarket m = claims(1, 7, 2);
        shared(m, PART, 9, 1, 6, 2);
        shared(m, EVEN, 9, 1, 6, 2);
        shared(m, OLD, 9, 1, 7, 1);
        for (int rule = 0; rule <= 2; rule++) {
            shared(m, rule, 10, 1, 7, 2);
            shared(m, rule, 11, 1, 7, 2);
            shared(m, rule, 300, 1, 7, 2);
        }
        // The claim is the value of all goods, not of what was won.
        PivotalMarket n = Markets.withParties(2, 0, 0);
        Markets.addsUp(n, 0, 9, 9);
        Markets.addsUp(n, 1, 5, 5);
        shared(n, PART, 28, 18, 10);
        shared(n, PART, 14, 9, 5);
    }

    private void shareOfOneThatIsOut() {
        check.title("21: its SHARE (0, if it is OUT)");
        PivotalMarket m = claims(9, 9, 9);
        m.let(1, false);
        for (int rule = 0; rule <= 2; rule++) {
            shared(m, rule, 10, 5, 0, 5);
            shared(m, rule, 17, 9, 0, 8);
            shared(m, rule, 18, 9, 0, 9);
            shared(m, rule, 300, 9, 0, 9);
        }
        m.let(0, false);
        m.let(2, false);
        for (int rule = 0; rule <= 2; rule++) {
            shared(m, rule, 0, 0, 0, 0);
            shared(m, rule, 300, 0, 0, 0);
        }
    }

    private void noClaims() {
        check.title("21: all CLAIMS are 0");
        PivotalMarket m = claims(0, 0);
        PivotalMarket noGoods = Markets.withParties(2);
        for (int rule = 0; rule <= 2; rule++) {
            shared(m, rule, 0, 0, 0);
            shared(m, rule, 1, 0, 0);
            shared(m, rule, 300, 0, 0);
            shared(noGoods, rule, 300, 0, 0);
        }
    }

    private void greatestRests() {
        check.title("21: PART: the greatest rests, of as great ones the smaller number first");
        PivotalMarket alike = claims(1, 1, 1);
        shared(alike, PART, 1, 1, 0, 0);
        shared(alike, PART, 2, 1, 1, 0);
        // 1/3 and 2/3; then 2/3 and 4/3.
        PivotalMarket two = claims(1, 2);
        shared(two, PART, 1, 0, 1);
        shared(two, PART, 2, 1, 1);
        // 6/7, 15/7, 0 and 0 of 3: the rests are 6 and 1.
        shared(claims(2, 5, 0, 0), PART, 3, 1, 2, 0, 0);
        // 49 and a half, and a half: the rests are alike.
        shared(claims(99, 1), PART, 50, 50, 0);
        shared(claims(1, 99), PART, 50, 1, 49);
        shared(claims(99, 1), PART, 51, 50, 1);
        // Without a rest nothing is left.
        shared(claims(2, 4), PART, 3, 1, 2);
    }

    private void evenToTheLeastSoFar() {
        check.title("21: EVEN: to the one that has least so far and less than its CLAIM (the smaller number)");
        PivotalMarket m = claims(3, 1, 2);
        shared(m, EVEN, 1, 1, 0, 0);
        shared(m, EVEN, 2, 1, 1, 0);
        shared(m, EVEN, 3, 1, 1, 1);
        shared(m, EVEN, 4, 2, 1, 1);
        shared(m, EVEN, 5, 2, 1, 2);
        shared(m, EVEN, 6, 3, 1, 2);
    }

    private void halfTheClaimsRoundedDown() {
        check.title("21: OLD: likewise with half the CLAIMS (rounded down)");
        PivotalMarket m = claims(1, 3, 4);
        // The halves are 0, 1 and 2.
        shared(m, OLD, 1, 0, 1, 0);
        shared(m, OLD, 2, 0, 1, 1);
        shared(m, OLD, 3, 0, 1, 2);
        shared(m, OLD, 4, 0, 2, 2);
    }

    private void oldGoesOnByWhatIsMissing() {
        check.title("21: OLD: to the one with the greatest CLAIM less what it has (the smaller number)");
        PivotalMarket m = claims(1, 3, 4);
        // Missing are 1, 2, 2 at first.
        shared(m, OLD, 5, 0, 2, 3);
        shared(m, OLD, 6, 1, 2, 3);
        shared(m, OLD, 7, 1, 3, 3);
        shared(m, OLD, 8, 1, 3, 4);
    }

    private void picksAndEnvy() {
        picksOfAPartyThatThereIs();
        pickedTillNoneIsLeft();
        othersHaveNone();
        pickedBySmallerNumber();
        enviesAPartyThatThereIs();
        enviesOneThatHasPicks();
        withoutOneGoodWhicheverThatIs();
        enviesInOrOut();
    }

    private void picked(PivotalMarket m, int... due) {
        for (int party = 0; party < due.length; party++) {
            int i = party;
            check.is(due[party], () -> m.picks(i));
        }
    }

    private void picksOfAPartyThatThereIs() {
        check.title("22: no such PARTY");
        check.index(() -> new PivotalMarket().picks(0));
        PivotalMarket m = Markets.full();
        check.index(() -> m.picks(-1));
        picked(m, 1, 2, 4, 8, 0);
        check.index(() -> m.picks(5));
    }

    private void pickedTillNoneIsLeft() {
        check.title("22: by numbers, round and round, till none is left");
        int[] zeros = {0, 0, 0, 0};
        picked(Markets.withParties(2), 0, 0);
        picked(Markets.withParties(1, zeros), 15);
        picked(Markets.withParties(2, zeros), 5, 10);
        picked(Markets.withParties(3, zeros), 9, 2, 4);
        picked(Markets.withParties(4, zeros), 1, 2, 4, 8);
        picked(Markets.withParties(5, zeros), 1, 2, 4, 8, 0);
        picked(Markets.withParties(5, 0), 1, 0, 0, 0, 0);
    }

    private void othersHaveNone() {
        check.title("22: those that are IN (others have none)");
        PivotalMarket m = Markets.withParties(3, 0, 0, 0, 0);
        m.let(0, false);
        picked(m, 0, 5, 10);
        m.let(2, false);
        picked(m, 0, 15, 0);
        m.let(1, false);
        picked(m, 0, 0, 0);
        m.let(2, true);
        picked(m, 0, 0, 15);
        // The last one has what others leave, as long as they are OUT.
        PivotalMarket five = Markets.withParties(5, 0, 0, 0, 0);
        picked(five, 1, 2, 4, 8, 0);
        five.let(3, false);
        picked(five, 1, 2, 4, 0, 8);
        five.let(3, true);
        picked(five, 1, 2, 4, 8, 0);
    }

    private void pickedBySmallerNumber() {
        check.title("22: the GOOD of which VALUE alone is greatest (the smaller number)");
        PivotalMarket m = Markets.withParties(2, 9, 9, 9, 9);
        Markets.addsUp(m, 0, 1, 2, 2, 1);
        // The second, then the third, which is as great, and is left; 1 has the first, and the last.
        picked(m, 6, 9);
        Markets.addsUp(m, 1, 0, 3, 3, 0);
        // 1 takes the third; alike are the first and the last to 0, and worth nothing to 1.
        picked(m, 3, 12);
        // All four together are worth much, one alone is not.
        m.bid(0, m.node(0, 15, 99, 0));
        picked(m, 5, 10);
    }

    private void enviesAPartyThatThereIs() {
        check.title("23: no such PARTY");
        check.index(() -> new PivotalMarket().envies(0, 0));
        PivotalMarket m = Markets.full();
        check.index(() -> m.envies(-1, 0));
        check.index(() -> m.envies(5, 0));
        check.index(() -> m.envies(0, -1));
        check.index(() -> m.envies(0, 5));
        check.is(false, () -> m.envies(0, 4));
        check.is(false, () -> m.envies(4, 0));
        check.is(false, () -> m.envies(4, 4));
    }

    /** 0 has all picks; 1 is OUT, and sees what it is asked. */
    private static PivotalMarket onlooker(int... amounts) {
        PivotalMarket m = Markets.withParties(2, new int[amounts.length]);
        m.let(1, false);
        Markets.addsUp(m, 1, amounts);
        return m;
    }

    private void enviesOneThatHasPicks() {
        check.title("23: i ENVIES j, if that has PICKS");
        PivotalMarket m = onlooker(9, 9);
        check.is(true, () -> m.envies(1, 0));
        m.let(0, false);
        check.is(false, () -> m.envies(1, 0));
        PivotalMarket noGoods = Markets.withParties(2);
        check.is(false, () -> noGoods.envies(1, 0));
        check.is(false, () -> noGoods.envies(0, 0));
        // One that is IN and has none, as there are four goods for five.
        PivotalMarket five = Markets.withParties(5, 0, 0, 0, 0);
        check.is(false, () -> five.envies(0, 4));
        five.let(0, false);
        check.is(false, () -> five.envies(0, 4));
        five.let(1, false);
        five.let(2, false);
        Markets.addsUp(five, 0, 9, 0, 9);
        check.is(true, () -> five.envies(0, 3));
        check.is(false, () -> five.envies(0, 4));
    }

    private void withoutOneGoodWhicheverThatIs() {
        check.title("23: is less than that of those of j without one GOOD, whichever GOOD that is");
        check.is(false, () -> onlooker(99).envies(1, 0));
        check.is(false, () -> onlooker(99, 0).envies(1, 0));
        check.is(false, () -> onlooker(0, 99).envies(1, 0));
        check.is(true, () -> onlooker(1, 1).envies(1, 0));
        check.is(true, () -> onlooker(99, 0, 0, 1).envies(1, 0));
        check.is(false, () -> onlooker(0, 0, 99, 0).envies(1, 0));
        check.is(true, () -> onlooker(0, 0, 99, 99).envies(1, 0));
        // Three of four are worth nothing, if each three lack one.
        PivotalMarket m = onlooker(0, 0, 0, 0);
        Markets.wants(m, 1, 15, 99);
        check.is(false, () -> m.envies(1, 0));
    }

    private void enviesInOrOut() {
        check.title("23: (IN or OUT)");
        PivotalMarket m = onlooker(1, 1, 1, 1);
        check.is(true, () -> m.envies(1, 0));
        check.is(false, () -> m.envies(0, 1));
        check.is(false, () -> m.envies(1, 1));
        m.let(1, true);
        // Both have two now, and 1 has no more of the two of 0 without one.
        check.is(false, () -> m.envies(1, 0));
        check.is(false, () -> m.envies(0, 1));
        m.let(0, false);
        check.is(false, () -> m.envies(0, 1));
        m.bid(0, 0);
        check.is(false, () -> m.envies(0, 1));
        m.bid(0, m.many(2) - 1);
        check.is(true, () -> m.envies(0, 1));
    }
}
