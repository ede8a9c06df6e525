/** Promises 24 to 28: each sentence that names an edge has a test of its own, on both sides of that edge. */
public final class EdgesOfVotesTest {
    private static final int FIRST = 0;
    private static final int POINTS = 1;
    private static final int RUNS = 2;
    private static final int PAIRS = 3;
    private static final int TWO = 4;
    /** Each candidate has two of each place. */
    private static final String[] ALL_ALIKE = {"012", "012", "123", "123", "230", "230", "301", "301"};

    private final Check check = new Check();

    public static void main(String[] args) {
        EdgesOfVotesTest all = new EdgesOfVotesTest();
        all.ballots();
        all.winners();
        all.tips();
        all.seats();
        all.check.end();
    }

    private void ballots() {
        firstIs0To3();
        secondIsNoneTo3();
        thirdIsNoneTo3();
        twoAreTheSame();
        thirdWithoutASecond();
        atMost8Ballots();
        takeWithoutBallots();
        takeReturnsItsFirst();
    }

    private void firstIs0To3() {
        check.title("24: first is 0 to 3");
        PivotalMarket m = new PivotalMarket();
        check.argument(() -> m.ballot(-1, 1, 2));
        check.argument(() -> m.ballot(-1, -1, -1));
        check.is(0, () -> m.ballot(0, 1, 2));
        check.is(1, () -> m.ballot(3, 1, 2));
        check.argument(() -> m.ballot(4, 1, 2));
        check.is(2, () -> m.many(7));
    }

    private void secondIsNoneTo3() {
        check.title("24: second is NONE to 3");
        PivotalMarket m = new PivotalMarket();
        check.argument(() -> m.ballot(1, -2, -1));
        check.is(0, () -> m.ballot(1, -1, -1));
        check.is(1, () -> m.ballot(1, 0, -1));
        check.is(2, () -> m.ballot(1, 3, -1));
        check.argument(() -> m.ballot(1, 4, -1));
        check.is(3, () -> m.many(7));
    }

    private void thirdIsNoneTo3() {
        check.title("24: third is NONE to 3");
        PivotalMarket m = new PivotalMarket();
        check.argument(() -> m.ballot(1, 2, -2));
        check.is(0, () -> m.ballot(1, 2, -1));
        check.is(1, () -> m.ballot(1, 2, 0));
        check.is(2, () -> m.ballot(1, 2, 3));
        check.argument(() -> m.ballot(1, 2, 4));
        check.is(3, () -> m.many(7));
    }

    private void twoAreTheSame() {
        check.title("24: two are the same");
        PivotalMarket m = new PivotalMarket();
        for (int candidate = 0; candidate <= 3; candidate++) {
            int c = candidate;
            int d = (candidate + 1) % 4;
            check.argument(() -> m.ballot(c, c, -1));
            check.argument(() -> m.ballot(c, c, d));
            check.argument(() -> m.ballot(c, d, c));
            check.argument(() -> m.ballot(c, d, d));
            check.argument(() -> m.ballot(c, c, c));
        }
        check.is(0, () -> m.many(7));
        // Twice NONE is no candidate twice.
        check.is(0, () -> m.ballot(0, -1, -1));
    }

    private void thirdWithoutASecond() {
        check.title("24: there is a third one without a second one");
        PivotalMarket m = new PivotalMarket();
        check.argument(() -> m.ballot(1, -1, 0));
        check.argument(() -> m.ballot(1, -1, 3));
        check.is(0, () -> m.ballot(1, 3, -1));
    }

    private void atMost8Ballots() {
        check.title("24: BALLOTS: at most 8");
        PivotalMarket m = new PivotalMarket();
        for (int i = 0; i < 8; i++) {
            int number = i;
            check.is(number, () -> m.ballot(number % 4, -1, -1));
        }
        check.state(() -> m.ballot(0, -1, -1));
        check.is(8, () -> m.many(7));
        m.take();
        check.is(7, () -> m.ballot(2, -1, -1));
        check.state(() -> m.ballot(0, -1, -1));
    }

    private void takeWithoutBallots() {
        check.title("25: there is none");
        PivotalMarket m = new PivotalMarket();
        check.state(m::take);
        m.ballot(2, -1, -1);
        check.is(2, m::take);
        check.state(m::take);
        check.is(0, () -> m.many(7));
        check.is(-1, () -> m.winner(FIRST));
    }

    private void takeReturnsItsFirst() {
        check.title("25: takes the last BALLOT away, returns its first CANDIDATE");
        PivotalMarket m = Markets.withBallots(ALL_ALIKE);
        int[] due = {3, 3, 2, 2, 1, 1, 0, 0};
        for (int i = 0; i < 8; i++) {
            int left = 7 - i;
            int first = due[i];
            check.is(first, m::take);
            check.is(left, () -> m.many(7));
            check.index(() -> m.tips(left, FIRST));
        }
        // What was there before has left nothing behind.
        m.ballot(1, -1, -1);
        check.is(1, () -> m.winner(POINTS));
        check.is(1, () -> m.winner(PAIRS));
        check.is(1, m::take);
    }

    private void winner(int due, int rule, String... ballots) {
        PivotalMarket m = Markets.withBallots(ballots);
        check.is(due, () -> m.winner(rule));
    }

    private void winners() {
        winnerByARuleThatThereIs();
        noneWithoutBallots();
        ofSeveralTheSmallerNumber();
        firstCountsFirstOnes();
        pointsAre3And2And1();
        runsOfSeveralTheGreaterNumberGoes();
        runsByThoseThatAreLeft();
        pairsByBallotsThatHaveOne();
        pairsLessThoseThatBeatIt();
        twoCountsFirstAndSecondOnes();
        eightBallots();
    }

    private void winnerByARuleThatThereIs() {
        check.title("26: rule is 0 to 4");
        // Firsts 3 2 2 0, points 9 6 8 7, seconds too 3 2 3 6; 3 beats 1 and 2; by runs 1 beats 0 at last.
        PivotalMarket m = Markets.withBallots("03", "03", "03", "13", "13", "231", "21");
        check.argument(() -> m.winner(-1));
        check.is(0, () -> m.winner(FIRST));
        check.is(3, () -> m.winner(POINTS));
        check.is(1, () -> m.winner(RUNS));
        check.is(3, () -> m.winner(PAIRS));
        check.is(3, () -> m.winner(TWO));
        check.argument(() -> m.winner(5));
    }

    private void noneWithoutBallots() {
        check.title("26: NONE without BALLOTS");
        PivotalMarket m = new PivotalMarket();
        for (int rule = 0; rule <= 4; rule++) {
            int r = rule;
            check.is(-1, () -> m.winner(r));
        }
        m.ballot(3, -1, -1);
        for (int rule = 0; rule <= 4; rule++) {
            int r = rule;
            check.is(3, () -> m.winner(r));
        }
        m.take();
        for (int rule = 0; rule <= 4; rule++) {
            int r = rule;
            check.is(-1, () -> m.winner(r));
        }
    }

    private void ofSeveralTheSmallerNumber() {
        check.title("26: who WINS (of several the smaller number)");
        for (int rule = 0; rule <= 4; rule++) {
            winner(0, rule, "3", "2", "1", "0");
            winner(1, rule, "3", "2", "1");
            winner(2, rule, "3", "2");
        }
    }

    private void firstCountsFirstOnes() {
        check.title("26: FIRST: most BALLOTS as their first one");
        winner(3, FIRST, "012", "301", "310");
        winner(0, FIRST, "012", "301", "310", "03");
        winner(1, FIRST, "123", "032", "023", "1", "1");
    }

    private void pointsAre3And2And1() {
        check.title("26: POINTS: 3 for a first, 2 for a second, 1 for a third one");
        // One more for a third one.
        winner(0, POINTS, "0", "1");
        winner(1, POINTS, "0", "1", "231");
        // Two second ones are more than a first one; three are as much as two.
        winner(1, POINTS, "0", "21", "31");
        winner(1, POINTS, "21", "31", "01", "2");
        winner(2, POINTS, "12", "32", "02", "1", "321");
        winner(1, POINTS, "12", "32", "02", "1");
        // 1 has 9; 0 has 6 and one for each third one.
        winner(1, POINTS, "1", "1", "1", "0", "0", "230", "320");
        winner(0, POINTS, "1", "1", "1", "0", "0", "230", "320", "230");
        // One that is on no ballot has none.
        winner(3, POINTS, "3");
    }

    private void runsOfSeveralTheGreaterNumberGoes() {
        check.title("26: RUNS: the fewest BALLOTS goes (of several the greater number)");
        // 3 goes before 2 before 1, and their ballots pass on.
        winner(0, RUNS, "0", "1", "2", "3");
        winner(2, RUNS, "0", "1", "2", "32");
        // 3 has two and stays; 2 goes, and then 1 of 0 and 1.
        winner(3, RUNS, "0", "13", "23", "3", "3");
        // Had 1 gone before 2, 2 would win.
        winner(1, RUNS, "21", "12", "3");
    }

    private void runsByThoseThatAreLeft() {
        check.title("26: RUNS: the one that is first of those that are left");
        // A ballot without any that is left counts for nobody.
        winner(0, RUNS, "3", "0", "2");
        // 2 goes, then 1, and the last ballot is for 0: two against two, or three.
        winner(0, RUNS, "3", "3", "0", "120");
        winner(3, RUNS, "3", "3", "3", "0", "120");
        // With its third one left out, it's for nobody in the end.
        winner(0, RUNS, "3", "3", "3", "0", "0", "210");
        winner(3, RUNS, "3", "3", "3", "0", "0", "21");
    }

    private void pairsByBallotsThatHaveOne() {
        check.title("26: PAIRS: one that is on a BALLOT is ahead of those that are not");
        winner(2, PAIRS, "02", "12", "2", "3");
        // By its third place 1 beats 0, and is as good as 2, that beats 3.
        winner(1, PAIRS, "0", "231", "1");
        winner(2, PAIRS, "0", "23", "1");
        winner(3, PAIRS, "3");
        // Of two that are not on it none is ahead: 2 beats 1 and 0 by the second one.
        winner(2, PAIRS, "3", "21");
        winner(2, PAIRS, "01", "32", "23");
    }

    private void pairsLessThoseThatBeatIt() {
        check.title("26: PAIRS: most that it beats less those that beat it");
        // A ring of three, and 3 is beaten by all.
        winner(0, PAIRS, "012", "120", "201");
        // 1 beats 0 and 3, and is beaten by none; 2 beats 0 and 3, and is beaten by 1.
        winner(1, PAIRS, "120", "123", "213");
        // As often one way as the other: none beats.
        winner(2, PAIRS, "2301", "3201");
        winner(0, PAIRS, "01", "10");
        winner(1, PAIRS, "01", "10", "1");
    }

    private void twoCountsFirstAndSecondOnes() {
        check.title("26: TWO: most BALLOTS as their first or second one");
        winner(0, TWO, "102", "203");
        // The third one doesn't count, and a first one not more than a second one.
        winner(1, TWO, "310", "210");
        winner(1, TWO, "2", "21", "01");
        winner(1, TWO, "03", "13", "23", "01", "12");
        winner(3, TWO, "03", "13", "23", "01", "12", "3");
    }

    private void eightBallots() {
        check.title("26: 8 BALLOTS");
        for (int rule = 0; rule <= 4; rule++) {
            winner(0, rule, ALL_ALIKE);
            winner(3, rule, "3", "3", "3", "3", "3", "3", "3", "3");
        }
        winner(3, FIRST, "0", "0", "0", "1", "3", "3", "3", "3");
        winner(0, FIRST, "0", "0", "0", "0", "3", "3", "3", "3");
    }

    private void tips() {
        tipsOfABallotThatThereIs();
        tipsByARuleThatThereIs();
        noTip();
        aheadOnTheTrueOne();
        mostAheadOnTheTrueOne();
        lieOfOneCandidate();
        lieOfTwoCandidates();
        lieOfThreeCandidates();
        ballotsStayAsTheyWere();
    }

    private void tip(int due, int number, int rule, String... ballots) {
        PivotalMarket m = Markets.withBallots(ballots);
        check.is(due, () -> m.tips(number, rule));
    }

    private void tipsOfABallotThatThereIs() {
        check.title("27: no such BALLOT");
        PivotalMarket none = new PivotalMarket();
        check.index(() -> none.tips(0, FIRST));
        check.index(() -> none.tips(-1, FIRST));
        PivotalMarket m = Markets.withBallots("230", "0", "1", "230");
        check.index(() -> m.tips(-1, FIRST));
        check.is(-1, () -> m.tips(0, FIRST));
        check.is(-1, () -> m.tips(3, FIRST));
        check.index(() -> m.tips(4, FIRST));
        PivotalMarket full = Markets.withBallots(ALL_ALIKE);
        // 1 has only two with it, and 0 wins by as many; 2 has three.
        check.is(-1, () -> full.tips(0, FIRST));
        check.is(2, () -> full.tips(2, FIRST));
        check.is(3, () -> full.tips(4, FIRST));
        check.is(-1, () -> full.tips(7, FIRST));
        check.index(() -> full.tips(8, FIRST));
    }

    private void tipsByARuleThatThereIs() {
        check.title("27: rule is 0 to 4");
        PivotalMarket m = Markets.withBallots("0", "0", "1", "1", "210");
        check.argument(() -> m.tips(4, -1));
        check.is(1, () -> m.tips(4, FIRST));
        check.is(-1, () -> m.tips(4, TWO));
        check.argument(() -> m.tips(4, 5));
    }

    private void noTip() {
        check.title("27: NONE without one");
        for (int rule = 0; rule <= 4; rule++) {
            tip(-1, 0, rule, "0");
            tip(-1, 0, rule, "0", "0");
            tip(-1, 1, rule, "0", "0", "0", "0", "0", "0", "0", "0");
        }
        // Whoever is first on it WINS already.
        tip(-1, 2, FIRST, "1", "0", "012");
        // One ballot is not enough.
        tip(-1, 3, FIRST, "0", "0", "1", "31");
        tip(1, 4, FIRST, "0", "0", "1", "1", "31");
        tip(-1, 0, FIRST, "0", "0", "1", "1", "31");
    }

    private void aheadOnTheTrueOne() {
        check.title("27: ahead, on the true one, of the one that WINS with that");
        // 0 WINS; 1 could, but is on it behind 0, or not at all.
        tip(-1, 2, FIRST, "0", "1", "201");
        tip(1, 2, FIRST, "0", "1", "210");
        tip(-1, 2, FIRST, "0", "1", "2");
        tip(-1, 2, FIRST, "0", "1", "20");
        // One that is on it is ahead of those that are not, also the third one.
        tip(1, 2, FIRST, "0", "1", "21");
        tip(1, 2, FIRST, "0", "1", "231");
    }

    private void mostAheadOnTheTrueOne() {
        check.title("27: the CANDIDATE, the one most ahead on the true one");
        tip(3, 3, FIRST, "01", "30", "12", "231");
        tip(1, 3, FIRST, "01", "30", "12", "213");
        tip(0, 1, POINTS, "31", "023");
        tip(1, 1, RUNS, "20", "310");
        tip(1, 1, PAIRS, "021", "12");
        tip(3, 2, PAIRS, "1", "312", "203");
    }

    private void lieOfOneCandidate() {
        check.title("27: a LIE of one CANDIDATE");
        // Another one on it would WIN, or 0 would.
        tip(3, 2, TWO, "01", "23", "30");
        tip(3, 0, TWO, "312");
        tip(0, 2, TWO, "12", "3", "03");
        tip(2, 1, POINTS, "301", "201");
        tip(2, 2, PAIRS, "1", "302", "210");
    }

    private void lieOfTwoCandidates() {
        check.title("27: a LIE of two CANDIDATES");
        // With 3 and then 2 on it nobody beats but 3, that beats 2; with 3 alone 0 beats 2 as well.
        tip(3, 2, PAIRS, "1", "0", "31");
    }

    private void lieOfThreeCandidates() {
        check.title("27: a LIE of three CANDIDATES");
        // 1 and 3 have to be ahead of 0, too.
        tip(2, 1, PAIRS, "032", "2");
    }

    private void ballotsStayAsTheyWere() {
        check.title("27: only asks: the BALLOTS stay");
        PivotalMarket m = Markets.withBallots("032", "2");
        long before = m.digest();
        for (int rule = 0; rule <= 4; rule++) {
            m.tips(0, rule);
            m.tips(1, rule);
        }
        check.is(before, m::digest);
        check.is(0, () -> m.winner(PAIRS));
        check.is(2, m::take);
        check.is(0, m::take);
    }

    private void seated(PivotalMarket m, int rule, int seats, int... due) {
        for (int candidate = 0; candidate < due.length; candidate++) {
            int c = candidate;
            check.is(due[candidate], () -> m.seats(c, rule, seats));
        }
    }

    private void seats() {
        candidateIs0To3();
        ruleIs0Or1();
        seatsAre1To30();
        noSeatsWithoutBallots();
        ofAsGreatOnesTheSmallerNumber();
        asAFraction();
        onlyFirstOnesCount();
    }

    private void candidateIs0To3() {
        check.title("28: candidate is 0 to 3");
        PivotalMarket m = Markets.withBallots("0", "0", "3");
        check.argument(() -> m.seats(-1, 0, 3));
        check.is(2, () -> m.seats(0, 0, 3));
        check.is(1, () -> m.seats(3, 0, 3));
        check.argument(() -> m.seats(4, 0, 3));
    }

    private void ruleIs0Or1() {
        check.title("28: rule is 0 or 1");
        // The third seat: by 0 it's 3/2 against 1, by 1 it's 3/3 against 1, and 0 is the smaller number.
        PivotalMarket m = Markets.withBallots("1", "1", "1", "2", "2", "0");
        check.argument(() -> m.seats(1, -1, 4));
        seated(m, 0, 3, 0, 2, 1, 0);
        seated(m, 1, 3, 1, 1, 1, 0);
        check.argument(() -> m.seats(1, 2, 4));
    }

    private void seatsAre1To30() {
        check.title("28: seats are 1 to 30");
        PivotalMarket m = Markets.withBallots(ALL_ALIKE);
        for (int rule = 0; rule <= 1; rule++) {
            int r = rule;
            check.argument(() -> m.seats(0, r, 0));
            check.argument(() -> m.seats(0, r, -1));
            seated(m, rule, 1, 1, 0, 0, 0);
            seated(m, rule, 29, 8, 7, 7, 7);
            seated(m, rule, 30, 8, 8, 7, 7);
            check.argument(() -> m.seats(0, r, 31));
        }
    }

    private void noSeatsWithoutBallots() {
        check.title("28: none without BALLOTS");
        PivotalMarket m = new PivotalMarket();
        for (int rule = 0; rule <= 1; rule++) {
            seated(m, rule, 1, 0, 0, 0, 0);
            seated(m, rule, 30, 0, 0, 0, 0);
        }
        m.ballot(2, -1, -1);
        for (int rule = 0; rule <= 1; rule++) {
            seated(m, rule, 30, 0, 0, 30, 0);
        }
        m.take();
        for (int rule = 0; rule <= 1; rule++) {
            seated(m, rule, 30, 0, 0, 0, 0);
        }
    }

    private void ofAsGreatOnesTheSmallerNumber() {
        check.title("28: of as great ones the smaller number");
        PivotalMarket m = Markets.withBallots("1", "2", "3", "1", "2", "3");
        for (int rule = 0; rule <= 1; rule++) {
            seated(m, rule, 1, 0, 1, 0, 0);
            seated(m, rule, 2, 0, 1, 1, 0);
            seated(m, rule, 3, 0, 1, 1, 1);
            seated(m, rule, 4, 0, 2, 1, 1);
        }
        // By 0: 1 (2), then 2/2 is as great as 1 of 3; 1 gets it.
        PivotalMarket n = Markets.withBallots("1", "1", "3");
        seated(n, 0, 2, 0, 2, 0, 0);
        // By 1: 3/3 is as great as 1.
        PivotalMarket p = Markets.withBallots("2", "2", "2", "3");
        seated(p, 1, 2, 0, 0, 2, 0);
        PivotalMarket q = Markets.withBallots("2", "2", "2", "1");
        seated(q, 1, 2, 0, 1, 1, 0);
    }

    private void asAFraction() {
        check.title("28: the greatest F / (SEATS so far + 1), as a fraction");
        // 5/2 is more than 2, though as whole numbers they are alike.
        PivotalMarket m = Markets.withBallots("0", "0", "1", "1", "1", "1", "1");
        seated(m, 0, 1, 0, 1, 0, 0);
        seated(m, 0, 2, 0, 2, 0, 0);
        seated(m, 0, 3, 1, 2, 0, 0);
        // 5/3 is less than 2, and 5/3 more than 1.
        seated(m, 1, 2, 1, 1, 0, 0);
        PivotalMarket n = Markets.withBallots("0", "1", "1", "1", "1", "1");
        seated(n, 1, 2, 0, 2, 0, 0);
        // 5/5 is as great as 1, 6/5 is more.
        seated(n, 1, 3, 1, 2, 0, 0);
        PivotalMarket p = Markets.withBallots("0", "1", "1", "1", "1", "1", "1");
        seated(p, 1, 3, 0, 3, 0, 0);
    }

    private void onlyFirstOnesCount() {
        check.title("28: the number of BALLOTS as first ones, F");
        PivotalMarket m = Markets.withBallots("012", "123", "130", "102");
        seated(m, 0, 4, 1, 3, 0, 0);
        seated(m, 1, 4, 1, 3, 0, 0);
        seated(m, 0, 30, 7, 23, 0, 0);
    }
}
