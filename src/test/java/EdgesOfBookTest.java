import java.math.BigInteger;
import java.util.ArrayList;
import java.util.List;

/** Promises 29 to 33: each sentence that names an edge has a test of its own, on both sides of that edge. */
public final class EdgesOfBookTest {
    private static final int BID = 0;
    private static final int PIVOT = 1;
    private static final int HALF = 2;

    private final Check check = new Check();

    public static void main(String[] args) {
        EdgesOfBookTest all = new EdgesOfBookTest();
        all.seals();
        all.appeals();
        all.counts();
        all.means();
        all.digests();
        all.check.end();
    }

    private static void allOut(PivotalMarket m) {
        for (int party = 0; party < m.many(1); party++) {
            m.let(party, false);
        }
    }

    private void seals() {
        sealByARuleThatThereIs();
        atMost8Seals();
        sealOfNobody();
    }

    private void sealByARuleThatThereIs() {
        check.title("29: rule is 0 to 2");
        PivotalMarket m = Markets.three();
        check.argument(() -> m.seal(-1));
        check.argument(() -> m.seal(3));
        check.is(0, () -> m.many(8));
        check.is(0, () -> m.seal(0));
        check.is(1, () -> m.seal(2));
        check.argument(() -> m.seal(3));
        check.is(2, () -> m.many(8));
    }

    private void atMost8Seals() {
        check.title("29: if there are 8");
        PivotalMarket m = Markets.three();
        for (int k = 0; k < 7; k++) {
            m.seal(PIVOT);
        }
        check.is(7, () -> m.seal(BID));
        check.state(() -> m.seal(BID));
        check.is(8, () -> m.many(8));
        m.let(0, false);
        check.state(() -> m.seal(BID));
        // The last one, and those before, are as they were sealed.
        check.is(7, () -> m.appeal(7));
        m.let(0, true);
        check.is(0, () -> m.appeal(7));
        check.is(0, () -> m.appeal(0));
    }

    private void sealOfNobody() {
        check.title("29: a market without PARTIES, or GOODS, can be sealed");
        PivotalMarket m = new PivotalMarket();
        check.is(0, () -> m.seal(BID));
        check.is(0, () -> m.appeal(0));
        m.party();
        check.is(1, () -> m.seal(HALF));
        check.is(0, () -> m.appeal(0));
        check.is(0, () -> m.appeal(1));
    }

    private void appeals() {
        appealOfASealThatThereIs();
        wouldWinSomethingElse();
        wouldPaySomethingElse();
        byThatRule();
        thoseThatCameLater();
        thoseThatWentOut();
    }

    private void appealOfASealThatThereIs() {
        check.title("30: if there is none");
        PivotalMarket none = Markets.three();
        check.index(() -> none.appeal(0));
        check.index(() -> none.appeal(-1));
        PivotalMarket m = Markets.full();
        check.index(() -> m.appeal(-1));
        check.is(0, () -> m.appeal(0));
        check.is(0, () -> m.appeal(7));
        check.index(() -> m.appeal(8));
        PivotalMarket one = Markets.three();
        one.seal(0);
        check.is(0, () -> one.appeal(0));
        check.index(() -> one.appeal(1));
    }

    private void wouldWinSomethingElse() {
        check.title("30: that would win something else now");
        PivotalMarket m = Markets.withParties(2, 0, 0);
        Markets.wants(m, 0, 1, 5);
        m.seal(BID);
        m.seal(PIVOT);
        // As much for the other good: it pays the same.
        Markets.wants(m, 0, 2, 5);
        check.is(1, () -> m.appeal(0));
        check.is(1, () -> m.appeal(1));
        m.bid(0, 0);
        check.is(0, () -> m.appeal(0));
    }

    private void wouldPaySomethingElse() {
        check.title("30: or pay something else");
        PivotalMarket m = Markets.withParties(2, 0);
        Markets.wants(m, 0, 1, 5);
        m.seal(BID);
        Markets.wants(m, 0, 1, 6);
        check.is(1, () -> m.appeal(0));
        Markets.wants(m, 0, 1, 4);
        check.is(1, () -> m.appeal(0));
        Markets.wants(m, 0, 1, 5);
        check.is(0, () -> m.appeal(0));
    }

    private void byThatRule() {
        check.title("30: by that RULE");
        PivotalMarket m = Markets.withParties(2, 0);
        Markets.wants(m, 0, 1, 9);
        m.seal(BID);
        m.seal(PIVOT);
        m.seal(HALF);
        // A rival for 1: by PIVOT 1 in place of 0, by HALF (9 + 1) / 2 in place of 9 / 2, by BID 9.
        Markets.wants(m, 1, 1, 1);
        check.is(0, () -> m.appeal(0));
        check.is(1, () -> m.appeal(1));
        check.is(1, () -> m.appeal(2));
        m.seal(HALF);
        Markets.wants(m, 1, 1, 2);
        check.is(1, () -> m.appeal(1));
        check.is(0, () -> m.appeal(3));
    }

    private void thoseThatCameLater() {
        check.title("30: those that came later, if they win or pay anything");
        PivotalMarket m = Markets.withParties(1, 0, 3);
        m.seal(BID);
        m.seal(PIVOT);
        for (int party = 1; party < 5; party++) {
            m.party();
        }
        check.is(0, () -> m.appeal(0));
        check.is(0, () -> m.appeal(1));
        Markets.wants(m, 4, 1, 9);
        // By PIVOT it pays nothing, and wins.
        check.is(0, () -> m.price(4, PIVOT));
        check.is(16, () -> m.appeal(0));
        check.is(16, () -> m.appeal(1));
        Markets.wants(m, 1, 2, 4);
        check.is(18, () -> m.appeal(0));
        m.let(4, false);
        check.is(2, () -> m.appeal(1));
        // One that came later and wins nothing is not in it.
        Markets.wants(m, 2, 2, 4);
        m.let(1, false);
        check.is(4, () -> m.appeal(0));
    }

    private void thoseThatWentOut() {
        check.title("30: those that were IN, and are OUT, and the other way round");
        PivotalMarket m = Markets.full();
        allOut(m);
        for (int k = 0; k < 8; k++) {
            int sealed = k;
            check.is(15, () -> m.appeal(sealed));
        }
        PivotalMarket n = Markets.withParties(2, 0);
        Markets.wants(n, 0, 1, 5);
        n.let(0, false);
        n.seal(BID);
        check.is(0, () -> n.appeal(0));
        n.let(0, true);
        check.is(1, () -> n.appeal(0));
    }

    private void counts() {
        whatIs0To8();
        manyOfNone();
        manyOfAll();
        unwonGoods();
        roundsIfNoneBegan();
    }

    private void counted(PivotalMarket m, int... due) {
        for (int what = 0; what < due.length; what++) {
            int w = what;
            check.is(due[what], () -> m.many(w));
        }
    }

    private void whatIs0To8() {
        check.title("31: what is 0 to 8");
        PivotalMarket m = Markets.full();
        check.argument(() -> m.many(-1));
        check.is(4, () -> m.many(0));
        check.is(8, () -> m.many(8));
        check.argument(() -> m.many(9));
    }

    private void manyOfNone() {
        check.title("31: none of what there can be");
        counted(new PivotalMarket(), 0, 0, 0, 0, 0, 0, 0, 0, 0);
        counted(Markets.withGoods(0, 0, 0, 0), 4, 0, 0, 0, 15, 0, 0, 0, 0);
        counted(Markets.withParties(5), 0, 5, 0, 5, 0, 0, 0, 0, 0);
        counted(Markets.withBallots("0", "1"), 0, 0, 0, 0, 0, 0, 0, 2, 0);
    }

    private void manyOfAll() {
        check.title("31: all of what there can be");
        PivotalMarket m = Markets.full();
        counted(m, 4, 5, 30, 5, 0, 3, 1, 8, 8);
        allOut(m);
        counted(m, 4, 5, 30, 0, 15, 3, 1, 8, 8);
    }

    private void unwonGoods() {
        check.title("31: the set of GOODS that nobody WON");
        PivotalMarket m = Markets.three();
        check.is(0, () -> m.many(4));
        m.let(0, false);
        check.is(0, () -> m.many(4));
        m.let(1, false);
        check.is(1, () -> m.many(4));
        m.let(2, false);
        check.is(3, () -> m.many(4));
        m.let(1, true);
        check.is(2, () -> m.many(4));
    }

    private void roundsIfNoneBegan() {
        check.title("31: 5 and 6: 0, if none began");
        PivotalMarket m = Markets.withParties(2, 0);
        check.state(() -> m.rise(40));
        check.argument(() -> m.open(0));
        check.is(0, () -> m.many(5));
        check.is(0, () -> m.many(6));
        m.open(1);
        check.is(0, () -> m.many(5));
        check.is(0, () -> m.many(6));
        Markets.wants(m, 0, 1, 99);
        m.bid(1, 0);
        m.rise(2);
        check.is(2, () -> m.many(5));
        check.is(0, () -> m.many(6));
        m.let(1, false);
        m.rise(5);
        check.is(3, () -> m.many(5));
        check.is(1, () -> m.many(6));
    }

    private void means() {
        meanByARuleThatThereIs();
        meanWithoutAny();
        meanIsNotCut();
        meanOfThoseThatAreIn();
    }

    private void meanByARuleThatThereIs() {
        check.title("32: rule is 0 to 2");
        PivotalMarket m = Markets.full();
        check.argument(() -> m.meanPrice(-1));
        check.is(28.0, () -> m.meanPrice(BID));
        check.is(3.0, () -> m.meanPrice(PIVOT));
        check.is(15.2, () -> m.meanPrice(HALF));
        check.argument(() -> m.meanPrice(3));
    }

    private void meanWithoutAny() {
        check.title("32: 0 without any");
        PivotalMarket m = Markets.full();
        allOut(m);
        for (int rule = 0; rule <= 2; rule++) {
            int r = rule;
            check.is(0.0, () -> new PivotalMarket().meanPrice(r));
            check.is(0.0, () -> Markets.withGoods(50).meanPrice(r));
            check.is(0.0, () -> Markets.withParties(5).meanPrice(r));
            check.is(0.0, () -> m.meanPrice(r));
        }
        check.argument(() -> m.meanPrice(3));
    }

    private void meanIsNotCut() {
        check.title("32: not cut");
        PivotalMarket m = Markets.withParties(2, 0);
        Markets.wants(m, 0, 1, 1);
        check.is(0.5, () -> m.meanPrice(BID));
        m.party();
        check.is(1.0 / 3, () -> m.meanPrice(BID));
        m.party();
        m.party();
        check.is(0.2, () -> m.meanPrice(BID));
    }

    private void meanOfThoseThatAreIn() {
        check.title("32: of all PARTIES that are IN");
        PivotalMarket m = Markets.withParties(3, 0);
        Markets.wants(m, 0, 1, 7);
        check.is(7.0 / 3, () -> m.meanPrice(BID));
        m.let(1, false);
        check.is(3.5, () -> m.meanPrice(BID));
        m.let(2, false);
        check.is(7.0, () -> m.meanPrice(BID));
        m.let(0, false);
        check.is(0.0, () -> m.meanPrice(BID));
        m.let(1, true);
        check.is(0.0, () -> m.meanPrice(BID));
    }

    private void digests() {
        digestOfNone();
        digestOfAll();
        digestWhereOneIsOut();
        digestChangesNothing();
    }

    /** The numbers that the digest is made of, asked one by one. */
    private static List<Long> answers(PivotalMarket m) {
        List<Long> all = new ArrayList<>();
        for (int what = 0; what <= 8; what++) {
            all.add((long) m.many(what));
        }
        int in = 0;
        for (int party = 0; party < m.many(1); party++) {
            in += isIn(m, party) ? 1 << party : 0;
        }
        all.add((long) m.worth(in));
        for (int rule = 0; rule <= 2; rule++) {
            all.add((long) m.blocks(rule));
            all.add((long) m.pair(rule));
        }
        for (int party = 0; party < m.many(1); party++) {
            addAnswersOfAParty(all, m, party);
        }
        for (int good = 0; good < m.many(0); good++) {
            all.add((long) m.tag(good));
        }
        addAnswersOfVotes(all, m);
        for (int k = 0; k < m.many(8); k++) {
            all.add((long) m.appeal(k));
        }
        return all;
    }

    private static boolean isIn(PivotalMarket m, int party) {
        return Check.answerOf(() -> m.gain(party, 0, 4)) instanceof Integer;
    }

    private static void addAnswersOfAParty(List<Long> all, PivotalMarket m, int party) {
        all.add((long) m.won(party));
        all.add((long) m.demand(party));
        all.add((long) m.picks(party));
        for (int rule = 0; rule <= 2; rule++) {
            all.add((long) m.price(party, rule));
            all.add((long) m.matched(party, rule));
            all.add((long) m.share(party, rule, 100));
            if (isIn(m, party)) {
                all.add((long) m.lie(party, rule));
            }
        }
        for (int other = 0; other < m.many(1); other++) {
            all.add(m.envies(party, other) ? 1L : 0L);
        }
    }

    private static void addAnswersOfVotes(List<Long> all, PivotalMarket m) {
        for (int rule = 0; rule <= 4; rule++) {
            all.add((long) m.winner(rule));
        }
        for (int number = 0; number < m.many(7); number++) {
            for (int rule = 0; rule <= 4; rule++) {
                all.add((long) m.tips(number, rule));
            }
        }
        for (int candidate = 0; candidate <= 3; candidate++) {
            all.add((long) m.seats(candidate, 0, 7));
            all.add((long) m.seats(candidate, 1, 7));
        }
    }

    /** Without a bound, and cut to 64 bits with their sign in the end. */
    private static long checksum(List<Long> numbers) {
        BigInteger d = BigInteger.valueOf(58148);
        for (long v : numbers) {
            d = d.multiply(BigInteger.valueOf(31)).add(BigInteger.valueOf(v));
        }
        return d.longValue();
    }

    private void digestIsOf(PivotalMarket m, int numbers) {
        List<Long> all = answers(m);
        check.tell(numbers, all.size());
        check.is(checksum(all), m::digest);
    }

    private void digestOfNone() {
        check.title("33: none of what there can be");
        // 9 counts, a worth, 3 times 2, 5 winners, 4 times 2 seats.
        digestIsOf(new PivotalMarket(), 29);
        digestIsOf(Markets.withGoods(1, 2, 3, 4), 33);
        // A party has 3, 3 times 4, and as many as there are parties.
        digestIsOf(Markets.withParties(5), 29 + 5 * 20);
        digestIsOf(Markets.withBallots("0", "12", "321"), 29 + 15);
        // Seven seats are 7 and 0 by the rule 0, and 6 and 1 by 1.
        PivotalMarket seats = Markets.withBallots("1", "1", "1", "1", "1", "1", "1", "3");
        check.is(7, () -> seats.seats(1, 0, 7));
        check.is(6, () -> seats.seats(1, 1, 7));
        digestIsOf(seats, 29 + 40);
    }

    private void digestOfAll() {
        check.title("33: all of what there can be, which wraps around as a 64-bit integer");
        PivotalMarket m = Markets.full();
        digestIsOf(m, 29 + 5 * 20 + 4 + 8 * 5 + 8);
        BigInteger most = BigInteger.valueOf(Long.MAX_VALUE);
        BigInteger whole = BigInteger.valueOf(58148).multiply(BigInteger.valueOf(31).pow(29));
        check.tell(true, whole.compareTo(most) > 0);
    }

    private void digestWhereOneIsOut() {
        check.title("33: and, if it is IN, lie()");
        PivotalMarket m = Markets.full();
        m.let(0, false);
        digestIsOf(m, 29 + 5 * 20 - 3 + 4 + 8 * 5 + 8);
        PivotalMarket nobodyIn = Markets.full();
        allOut(nobodyIn);
        digestIsOf(nobodyIn, 29 + 5 * 20 - 15 + 4 + 8 * 5 + 8);
        // Envy, a tip, a blocking set and a pair are numbers of it.
        PivotalMarket n = Markets.withParties(3, 0, 0);
        Markets.addsUp(n, 0, 5, 5);
        n.let(0, false);
        Markets.cast(n, "0", "0", "1", "1", "210");
        n.let(2, false);
        check.is(true, () -> n.envies(0, 1));
        digestIsOf(n, 29 + 3 * 18 - 6 + 2 + 5 * 5);
    }

    private void digestChangesNothing() {
        check.title("33: returns d, and changes nothing");
        PivotalMarket m = Markets.three();
        m.seal(HALF);
        m.open(2);
        m.rise(1);
        List<Long> before = answers(m);
        long d = m.digest();
        check.is(d, m::digest);
        check.tell(before, answers(m));
    }
}
