import java.util.ArrayList;
import java.util.List;
import java.util.function.Function;
import java.util.function.Supplier;

/**
 * "A method that throws an exception changes nothing. If several exceptions apply, the one that is named first is
 * thrown." Each call is refused by one of two markets that were made alike; then both answer alike for all that can
 * be asked of them, and for all that can be done with them from then on.
 */
public final class RefusedCallsTest {
    private static final Class<?> ARGUMENT = IllegalArgumentException.class;
    private static final Class<?> STATE = IllegalStateException.class;
    private static final Class<?> INDEX = IndexOutOfBoundsException.class;
    private static final int LOW = Integer.MIN_VALUE;
    private static final int HIGH = Integer.MAX_VALUE;

    private final Check check = new Check();
    private final List<Function<PivotalMarket, List<Object>>> probes = new ArrayList<>();
    private Supplier<PivotalMarket> maker = PivotalMarket::new;
    private String title = "";
    /** What each probe tells of a market that refused nothing. */
    private final List<List<Object>> due = new ArrayList<>();

    private RefusedCallsTest() {
        probes.add(RefusedCallsTest::askOfGoodsAndParties);
        probes.add(RefusedCallsTest::askOfVotesAndBook);
        probes.add(RefusedCallsTest::goOnWithPrices);
        probes.add(RefusedCallsTest::goOnWithGoodsAndParties);
        for (int from = 0; from < 30; from += 10) {
            int first = from;
            probes.add(m -> readNodes(m, first, first + 10));
        }
    }

    public static void main(String[] args) {
        RefusedCallsTest all = new RefusedCallsTest();
        all.ofANewMarket();
        all.ofGoodsAlone();
        all.ofPartiesAlone();
        all.half();
        all.ofNobodyIn();
        all.full();
        all.check.end();
    }

    /** The market that the calls that follow are refused by. */
    private void by(String newTitle, Supplier<PivotalMarket> newMaker) {
        title = newTitle;
        maker = newMaker;
        due.clear();
        for (Function<PivotalMarket, List<Object>> probe : probes) {
            due.add(probe.apply(maker.get()));
        }
    }

    private interface Call {
        Object on(PivotalMarket m);
    }

    private void refused(Class<?> exception, String name, Call call) {
        for (int i = 0; i < probes.size(); i++) {
            PivotalMarket m = maker.get();
            check.title(title + ": " + name);
            check.tell(exception, Check.answerOf(() -> call.on(m)));
            check.title(title + ": " + name + " changes nothing, probe " + i);
            check.tell(due.get(i), probes.get(i).apply(m));
        }
    }

    // ---- what can be asked

    private static void add(List<Object> answers, PivotalMarket m, Call call) {
        answers.add(Check.answerOf(() -> call.on(m)));
    }

    private static List<Object> askOfGoodsAndParties(PivotalMarket m) {
        List<Object> answers = new ArrayList<>();
        add(answers, m, PivotalMarket::digest);
        for (int set = 0; set < 32; set++) {
            int parties = set;
            add(answers, m, x -> x.worth(parties));
        }
        for (int party = 0; party < 5; party++) {
            int i = party;
            for (int set = 0; set < 16; set++) {
                int goods = set;
                add(answers, m, x -> x.value(i, goods));
            }
            add(answers, m, x -> x.gain(i, 2, 1));
            add(answers, m, x -> x.share(i, 2, 150));
        }
        for (int rule = 0; rule <= 2; rule++) {
            int r = rule;
            add(answers, m, x -> x.meanPrice(r));
        }
        for (int good = 0; good < 4; good++) {
            for (int party = 0; party < 5; party++) {
                int g = good;
                int i = party;
                add(answers, m, x -> x.rank(g, i, 0));
            }
        }
        return answers;
    }

    private static List<Object> askOfVotesAndBook(PivotalMarket m) {
        List<Object> answers = new ArrayList<>();
        for (int what = 0; what <= 8; what++) {
            int w = what;
            add(answers, m, x -> x.many(w));
        }
        for (int party = 0; party < 5; party++) {
            int i = party;
            add(answers, m, x -> x.let(i, true));
            for (int k = 0; k < 8; k++) {
                int sealed = k;
                add(answers, m, x -> x.appeal(sealed));
            }
        }
        for (int k = 0; k < 8; k++) {
            add(answers, m, x -> x.ballot(3, 2, 1));
        }
        for (int k = 0; k <= 8; k++) {
            add(answers, m, x -> x.seats(0, 0, 30));
            add(answers, m, x -> x.tips(0, 1));
            for (int rule = 0; rule <= 4; rule++) {
                int r = rule;
                add(answers, m, x -> x.winner(r));
            }
            add(answers, m, PivotalMarket::take);
        }
        for (int k = 0; k <= 8; k++) {
            add(answers, m, x -> x.seal(1));
            add(answers, m, PivotalMarket::digest);
        }
        return answers;
    }

    // ---- what can be done from then on

    private static List<Object> goOnWithPrices(PivotalMarket m) {
        List<Object> answers = new ArrayList<>();
        for (int round = 0; round < 25; round++) {
            for (int good = 0; good < 4; good++) {
                int g = good;
                add(answers, m, x -> x.tag(g));
            }
            for (int party = 0; party < 5; party++) {
                int i = party;
                add(answers, m, x -> x.demand(i));
            }
            // Whoever is in could demand all of it from the third round on, but for its limit.
            if (round < 10) {
                int i = round % 5;
                add(answers, m, x -> x.bid(i, 3));
            }
            int most = round < 20 ? 1 : 10;
            add(answers, m, x -> x.rise(most));
        }
        return answers;
    }

    private static List<Object> goOnWithGoodsAndParties(PivotalMarket m) {
        List<Object> answers = new ArrayList<>();
        for (int i = 0; i <= 5; i++) {
            add(answers, m, PivotalMarket::party);
            add(answers, m, x -> x.good(7));
            add(answers, m, PivotalMarket::digest);
        }
        for (int i = 0; i <= 30; i++) {
            add(answers, m, x -> x.node(0, 1, 50, 0));
        }
        for (int party = 0; party < 5; party++) {
            int i = party;
            add(answers, m, x -> x.bid(i, 2 * i));
            add(answers, m, PivotalMarket::digest);
            add(answers, m, x -> x.let(i, i % 2 == 0));
        }
        add(answers, m, PivotalMarket::digest);
        add(answers, m, x -> x.open(3));
        add(answers, m, x -> x.rise(40));
        add(answers, m, PivotalMarket::digest);
        return answers;
    }

    /** What the nodes tell, by bids of the first party. */
    private static List<Object> readNodes(PivotalMarket m, int from, int to) {
        List<Object> answers = new ArrayList<>();
        for (int node = from; node < to; node++) {
            int n = node;
            add(answers, m, x -> x.bid(0, n));
            for (int set = 0; set < 16; set++) {
                int goods = set;
                add(answers, m, x -> x.value(0, goods));
            }
        }
        return answers;
    }

    // ---- what is refused by each market

    private void everywhere() {
        int[] noReserves = {-1, 51, LOW, HIGH};
        for (int reserve : noReserves) {
            refused(ARGUMENT, "good(" + reserve + ")", m -> m.good(reserve));
        }
        refused(ARGUMENT, "node(-1, 1, 1, 0)", m -> m.node(-1, 1, 1, 0));
        refused(ARGUMENT, "node(5, 1, 1, 0)", m -> m.node(5, 1, 1, 0));
        refused(ARGUMENT, "node(0, 0, 1, 0)", m -> m.node(0, 0, 1, 0));
        refused(ARGUMENT, "node(0, 16, 1, 0)", m -> m.node(0, 16, 1, 0));
        refused(ARGUMENT, "node(0, 1, 0, 0)", m -> m.node(0, 1, 0, 0));
        refused(ARGUMENT, "node(0, 1, 100, 0)", m -> m.node(0, 1, 100, 0));
        refused(ARGUMENT, "node(0, 1, 1, 1)", m -> m.node(0, 1, 1, 1));
        refused(ARGUMENT, "node(1, 0, 30, 0)", m -> m.node(1, 0, 30, 0));
        refused(ARGUMENT, "node(2, -1, 0, 0)", m -> m.node(2, -1, 0, 0));
        refused(ARGUMENT, "node(3, 0, 0, 100)", m -> m.node(3, 0, 0, 100));
        refused(ARGUMENT, "node(3, 0, 0, -1)", m -> m.node(3, 0, 0, -1));
        refused(ARGUMENT, "node(4, 0, 201, 0)", m -> m.node(4, 0, 201, 0));
        refused(ARGUMENT, "node(4, 0, -1, 0)", m -> m.node(4, 0, -1, 0));
        refused(ARGUMENT, "worth(-1)", m -> m.worth(-1));
        refused(ARGUMENT, "worth(32)", m -> m.worth(32));
        partiesThatAreNowhere();
        rulesThatAreNowhere();
        risingEverywhere();
        votesEverywhere();
        bookEverywhere();
    }

    private void partiesThatAreNowhere() {
        int[] nowhere = {-1, 5, LOW, HIGH};
        for (int i : nowhere) {
            refused(INDEX, "bid(" + i + ", -1)", m -> m.bid(i, -1));
            refused(INDEX, "let(" + i + ", false)", m -> m.let(i, false));
            refused(INDEX, "rank(0, " + i + ", 1)", m -> m.rank(0, i, 1));
            refused(INDEX, "rank(" + i + ", 0, 1)", m -> m.rank(i, 0, 1));
            refused(INDEX, "value(" + i + ", 0)", m -> m.value(i, 0));
            refused(INDEX, "won(" + i + ")", m -> m.won(i));
            refused(INDEX, "price(" + i + ", 0)", m -> m.price(i, 0));
            refused(INDEX, "gain(" + i + ", 0, 1)", m -> m.gain(i, 0, 1));
            refused(INDEX, "lie(" + i + ", 0)", m -> m.lie(i, 0));
            refused(INDEX, "tag(" + i + ")", m -> m.tag(i));
            refused(INDEX, "demand(" + i + ")", m -> m.demand(i));
            refused(INDEX, "matched(" + i + ", 0)", m -> m.matched(i, 0));
            refused(INDEX, "share(" + i + ", 0, 1)", m -> m.share(i, 0, 1));
            refused(INDEX, "picks(" + i + ")", m -> m.picks(i));
            refused(INDEX, "envies(" + i + ", 0)", m -> m.envies(i, 0));
            refused(INDEX, "envies(0, " + i + ")", m -> m.envies(0, i));
            // Two exceptions apply.
            refused(INDEX, "bid(" + i + ", 30)", m -> m.bid(i, 30));
            refused(INDEX, "rank(0, " + i + ", 10)", m -> m.rank(0, i, 10));
            refused(INDEX, "rank(" + i + ", 0, -1)", m -> m.rank(i, 0, -1));
            refused(INDEX, "value(" + i + ", 16)", m -> m.value(i, 16));
            refused(INDEX, "price(" + i + ", 3)", m -> m.price(i, 3));
            refused(INDEX, "gain(" + i + ", 3, 1)", m -> m.gain(i, 3, 1));
            refused(INDEX, "gain(" + i + ", 0, 9)", m -> m.gain(i, 0, 9));
            refused(INDEX, "lie(" + i + ", 3)", m -> m.lie(i, 3));
            refused(INDEX, "matched(" + i + ", 3)", m -> m.matched(i, 3));
            refused(INDEX, "share(" + i + ", 3, 1)", m -> m.share(i, 3, 1));
            refused(INDEX, "share(" + i + ", 0, 301)", m -> m.share(i, 0, 301));
        }
    }

    private void rulesThatAreNowhere() {
        int[] nowhere = {-1, 3, LOW, HIGH};
        for (int rule : nowhere) {
            refused(ARGUMENT, "blocks(" + rule + ")", m -> m.blocks(rule));
            refused(ARGUMENT, "pair(" + rule + ")", m -> m.pair(rule));
            refused(ARGUMENT, "seal(" + rule + ")", m -> m.seal(rule));
            refused(ARGUMENT, "meanPrice(" + rule + ")", m -> m.meanPrice(rule));
        }
        refused(ARGUMENT, "many(-1)", m -> m.many(-1));
        refused(ARGUMENT, "many(9)", m -> m.many(9));
    }

    private void risingEverywhere() {
        int[] noSteps = {0, -1, 21, LOW, HIGH};
        for (int step : noSteps) {
            refused(ARGUMENT, "open(" + step + ")", m -> m.open(step));
        }
        // Whether they began, and ended, or not.
        int[] noRounds = {0, -1, 41, LOW, HIGH};
        for (int rounds : noRounds) {
            refused(ARGUMENT, "rise(" + rounds + ")", m -> m.rise(rounds));
        }
    }

    private void votesEverywhere() {
        // Whether there are 8 already, or not.
        int[][] noBallots = {
            {-1, 0, 1}, {4, 0, 1}, {0, -2, -1}, {0, 4, 1}, {0, 1, -2}, {0, 1, 4},
            {0, 0, 1}, {0, 1, 0}, {0, 1, 1}, {0, -1, 1}, {-1, -1, -1}, {LOW, HIGH, 0},
        };
        for (int[] b : noBallots) {
            refused(ARGUMENT, "ballot(" + b[0] + ", " + b[1] + ", " + b[2] + ")", m -> m.ballot(b[0], b[1], b[2]));
        }
        refused(ARGUMENT, "winner(-1)", m -> m.winner(-1));
        refused(ARGUMENT, "winner(5)", m -> m.winner(5));
        refused(INDEX, "tips(-1, 0)", m -> m.tips(-1, 0));
        refused(INDEX, "tips(8, 0)", m -> m.tips(8, 0));
        refused(INDEX, "tips(-1, 5)", m -> m.tips(-1, 5));
        refused(INDEX, "tips(8, -1)", m -> m.tips(8, -1));
        refused(ARGUMENT, "seats(-1, 0, 1)", m -> m.seats(-1, 0, 1));
        refused(ARGUMENT, "seats(4, 0, 1)", m -> m.seats(4, 0, 1));
        refused(ARGUMENT, "seats(0, -1, 1)", m -> m.seats(0, -1, 1));
        refused(ARGUMENT, "seats(0, 2, 1)", m -> m.seats(0, 2, 1));
        refused(ARGUMENT, "seats(0, 0, 0)", m -> m.seats(0, 0, 0));
        refused(ARGUMENT, "seats(0, 0, 31)", m -> m.seats(0, 0, 31));
    }

    private void bookEverywhere() {
        refused(INDEX, "appeal(-1)", m -> m.appeal(-1));
        refused(INDEX, "appeal(8)", m -> m.appeal(8));
        refused(INDEX, "appeal(LOW)", m -> m.appeal(LOW));
        refused(INDEX, "appeal(HIGH)", m -> m.appeal(HIGH));
    }

    private void ofANewMarket() {
        by("new", PivotalMarket::new);
        everywhere();
        refused(ARGUMENT, "node(0, 1, 1, 0)", m -> m.node(0, 1, 1, 0));
        refused(INDEX, "bid(0, -1)", m -> m.bid(0, -1));
        refused(INDEX, "let(0, false)", m -> m.let(0, false));
        refused(INDEX, "rank(0, 0, 0)", m -> m.rank(0, 0, 0));
        refused(ARGUMENT, "worth(1)", m -> m.worth(1));
        refused(INDEX, "tag(0)", m -> m.tag(0));
        refused(STATE, "rise(1)", m -> m.rise(1));
        refused(STATE, "rise(40)", m -> m.rise(40));
        refused(STATE, "take()", PivotalMarket::take);
        refused(INDEX, "tips(0, 0)", m -> m.tips(0, 0));
        refused(INDEX, "tips(0, 5)", m -> m.tips(0, 5));
        refused(INDEX, "appeal(0)", m -> m.appeal(0));
    }

    private void ofGoodsAlone() {
        by("goods alone", () -> Markets.withGoods(5, 0));
        everywhere();
        refused(ARGUMENT, "node(0, 4, 1, 0)", m -> m.node(0, 4, 1, 0));
        refused(ARGUMENT, "node(4, 0, 1, 0)", m -> m.node(4, 0, 1, 0));
        refused(INDEX, "rank(0, 0, 1)", m -> m.rank(0, 0, 1));
        refused(INDEX, "tag(2)", m -> m.tag(2));
        refused(ARGUMENT, "worth(1)", m -> m.worth(1));
        refused(STATE, "rise(1)", m -> m.rise(1));
        refused(STATE, "take()", PivotalMarket::take);
    }

    private void ofPartiesAlone() {
        by("parties alone", () -> Markets.withParties(2));
        everywhere();
        refused(ARGUMENT, "bid(0, 0)", m -> m.bid(0, 0));
        refused(ARGUMENT, "bid(0, -2)", m -> m.bid(0, -2));
        refused(INDEX, "bid(2, -1)", m -> m.bid(2, -1));
        refused(INDEX, "let(2, false)", m -> m.let(2, false));
        refused(INDEX, "rank(0, 0, 1)", m -> m.rank(0, 0, 1));
        refused(ARGUMENT, "value(0, 1)", m -> m.value(0, 1));
        refused(ARGUMENT, "worth(4)", m -> m.worth(4));
        refused(STATE, "rise(1)", m -> m.rise(1));
    }

    /** Prices are rising, one party is out, and there is room for more of everything but goods. */
    private static PivotalMarket halfMarket() {
        PivotalMarket m = Markets.withParties(4, 1, 0, 2);
        int first = Markets.addsUp(m, 0, 60, 0, 9);
        int second = m.node(0, 3, 70, 0);
        m.bid(1, m.node(1, first, second, 0));
        m.bid(2, m.node(3, first, second, 40));
        m.bid(3, second);
        m.rank(0, 1, 3);
        m.rank(2, 0, 9);
        m.rank(1, 3, 1);
        m.open(4);
        m.rise(1);
        m.seal(1);
        m.let(1, false);
        m.rise(2);
        m.seal(2);
        Markets.cast(m, "0", "12", "301");
        return m;
    }

    private void half() {
        by("half full", RefusedCallsTest::halfMarket);
        everywhere();
        argumentsOfWhatIsThere(4);
        refused(STATE, "good(0)", m -> m.good(0));
        refused(ARGUMENT, "node(0, 8, 1, 0)", m -> m.node(0, 8, 1, 0));
        refused(ARGUMENT, "node(4, 6, 1, 0)", m -> m.node(4, 6, 1, 0));
        refused(ARGUMENT, "bid(0, 6)", m -> m.bid(0, 6));
        refused(INDEX, "bid(4, 0)", m -> m.bid(4, 0));
        refused(INDEX, "let(4, false)", m -> m.let(4, false));
        refused(INDEX, "rank(3, 0, 1)", m -> m.rank(3, 0, 1));
        refused(INDEX, "rank(0, 4, 1)", m -> m.rank(0, 4, 1));
        refused(ARGUMENT, "value(0, 8)", m -> m.value(0, 8));
        refused(ARGUMENT, "worth(16)", m -> m.worth(16));
        refused(INDEX, "tag(3)", m -> m.tag(3));
        refused(INDEX, "demand(4)", m -> m.demand(4));
        refused(INDEX, "tips(3, 0)", m -> m.tips(3, 0));
        refused(INDEX, "tips(3, 5)", m -> m.tips(3, 5));
        refused(ARGUMENT, "tips(2, 5)", m -> m.tips(2, 5));
        refused(INDEX, "appeal(2)", m -> m.appeal(2));
        refused(INDEX, "gain(1, 0, 1), who is OUT", m -> m.gain(1, 0, 1));
        refused(INDEX, "gain(1, 3, 9), who is OUT", m -> m.gain(1, 3, 9));
        refused(INDEX, "lie(1, 0), who is OUT", m -> m.lie(1, 0));
        refused(INDEX, "lie(1, 3), who is OUT", m -> m.lie(1, 3));
    }

    private void argumentsOfWhatIsThere(int parties) {
        refused(ARGUMENT, "bid(0, -2)", m -> m.bid(0, -2));
        refused(ARGUMENT, "bid(0, 30)", m -> m.bid(0, 30));
        refused(ARGUMENT, "rank(0, 0, -1)", m -> m.rank(0, 0, -1));
        refused(ARGUMENT, "rank(0, 0, 10)", m -> m.rank(0, 0, 10));
        refused(ARGUMENT, "value(0, -1)", m -> m.value(0, -1));
        refused(ARGUMENT, "value(0, 16)", m -> m.value(0, 16));
        int last = parties - 1;
        int[] noRules = {-1, 3};
        for (int rule : noRules) {
            refused(ARGUMENT, "price(last, " + rule + ")", m -> m.price(last, rule));
            refused(ARGUMENT, "matched(last, " + rule + ")", m -> m.matched(last, rule));
            refused(ARGUMENT, "share(last, " + rule + ", 1)", m -> m.share(last, rule, 1));
        }
        refused(ARGUMENT, "share(0, 0, -1)", m -> m.share(0, 0, -1));
        refused(ARGUMENT, "share(0, 0, 301)", m -> m.share(0, 0, 301));
    }

    private void argumentsOfOneThatIsIn() {
        int[] noRules = {-1, 3};
        for (int rule : noRules) {
            refused(ARGUMENT, "gain(0, " + rule + ", 4)", m -> m.gain(0, rule, 4));
            refused(ARGUMENT, "lie(0, " + rule + ")", m -> m.lie(0, rule));
        }
        refused(ARGUMENT, "gain(0, 0, -1)", m -> m.gain(0, 0, -1));
        refused(ARGUMENT, "gain(0, 0, 9)", m -> m.gain(0, 0, 9));
    }

    private static PivotalMarket nobodyIn() {
        PivotalMarket m = Markets.three();
        m.open(3);
        for (int party = 0; party < 3; party++) {
            m.let(party, false);
        }
        m.rise(1);
        return m;
    }

    private void ofNobodyIn() {
        by("nobody in", RefusedCallsTest::nobodyIn);
        everywhere();
        argumentsOfWhatIsThere(3);
        for (int party = 0; party < 3; party++) {
            int i = party;
            refused(INDEX, "gain(" + i + ", 0, 4)", m -> m.gain(i, 0, 4));
            refused(INDEX, "gain(" + i + ", -1, 4)", m -> m.gain(i, -1, 4));
            refused(INDEX, "lie(" + i + ", 0)", m -> m.lie(i, 0));
            refused(INDEX, "lie(" + i + ", -1)", m -> m.lie(i, -1));
        }
        refused(STATE, "rise(1)", m -> m.rise(1));
        refused(STATE, "good(0)", m -> m.good(0));
    }

    private void full() {
        by("full", Markets::full);
        everywhere();
        argumentsOfWhatIsThere(5);
        argumentsOfOneThatIsIn();
        refused(STATE, "good(0)", m -> m.good(0));
        refused(STATE, "good(50)", m -> m.good(50));
        refused(STATE, "party()", PivotalMarket::party);
        refused(STATE, "node(0, 1, 1, 0)", m -> m.node(0, 1, 1, 0));
        refused(STATE, "node(3, 29, 29, 99)", m -> m.node(3, 29, 29, 99));
        refused(STATE, "rise(1)", m -> m.rise(1));
        refused(STATE, "rise(40)", m -> m.rise(40));
        refused(STATE, "ballot(0, -1, -1)", m -> m.ballot(0, -1, -1));
        refused(STATE, "ballot(3, 2, 1)", m -> m.ballot(3, 2, 1));
        refused(STATE, "seal(0)", m -> m.seal(0));
        refused(STATE, "seal(2)", m -> m.seal(2));
        refused(ARGUMENT, "tips(7, 5)", m -> m.tips(7, 5));
        refused(ARGUMENT, "tips(0, -1)", m -> m.tips(0, -1));
    }
}
