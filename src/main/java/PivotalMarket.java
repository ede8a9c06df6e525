/** An auctioneer of bundles, and a teller of fair dealing. */
public final class PivotalMarket {
    private static final int NONE = -1;

    private static final int MOST_GOODS = 4;
    private static final int MOST_PARTIES = 5;
    private static final int MOST_NODES = 30;
    private static final int MOST_BALLOTS = 8;
    private static final int MOST_SEALED = 8;
    private static final int GOOD_SETS = 1 << MOST_GOODS;
    private static final int PARTY_SETS = 1 << MOST_PARTIES;

    private static final int RULES = 3;
    private static final int VOTE_RULES = 5;
    private static final int CANDIDATES = 4;

    private static final int MOST_RESERVE = 50;
    private static final int MOST_RANK = 9;
    private static final int MOST_QUARTERS = 8;
    private static final int MOST_STEP = 20;
    private static final int MOST_ROUNDS = 40;
    private static final int MOST_ESTATE = 300;
    private static final int MOST_SEATS = 30;
    private static final int LAST_COUNT = 8;

    private static final long DIGEST_START = 58148L;
    private static final long DIGEST_FACTOR = 31L;
    private static final int DIGEST_ESTATE = 100;
    private static final int DIGEST_SEATS = 7;

    private final Bids bids;
    private final Auction auction;
    private final Rising rising;
    private final Matching matching;
    private final Shares shares;
    private final Picks picking;
    private final Votes votes;
    private final Book book;

    public PivotalMarket() {
        bids = new Bids();
        auction = new Auction(bids);
        rising = new Rising(bids);
        matching = new Matching(bids);
        shares = new Shares(bids);
        picking = new Picks(bids);
        votes = new Votes();
        book = new Book(bids, auction);
    }

    // ---- goods, parties, bids

    public int good(int reserve) throws IllegalArgumentException, IllegalStateException {
        needRange(reserve, 0, MOST_RESERVE);
        if (bids.goods >= MOST_GOODS || bids.nodes > 0) {
            throw new IllegalStateException("no more goods can be told");
        }
        int number = bids.addGood(reserve);
        auction.settle();
        return number;
    }

    public int party() throws IllegalStateException {
        if (bids.parties >= MOST_PARTIES) {
            throw new IllegalStateException("no more parties can be told");
        }
        int number = bids.addParty();
        auction.settle();
        return number;
    }

    public int node(int kind, int a, int b, int c) throws IllegalArgumentException, IllegalStateException {
        if (!bids.isNodeAllowed(kind, a, b, c)) {
            throw new IllegalArgumentException("no such kind of node, or not as its kind asks");
        }
        if (bids.nodes >= MOST_NODES) {
            throw new IllegalStateException("no more nodes can be built");
        }
        return bids.addNode(kind, a, b, c);
    }

    public int bid(int party, int node) throws IndexOutOfBoundsException, IllegalArgumentException {
        needParty(party);
        if (node != NONE && !bids.hasNode(node)) {
            throw new IllegalArgumentException("no such node");
        }
        int before = bids.replaceBid(party, node);
        auction.settle();
        return before;
    }

    public int let(int party, boolean isIn) throws IndexOutOfBoundsException {
        needParty(party);
        bids.setIn(party, isIn);
        auction.settle();
        return bids.countIn();
    }

    public int rank(int good, int party, int rank) throws IndexOutOfBoundsException, IllegalArgumentException {
        needGood(good);
        needParty(party);
        needRange(rank, 0, MOST_RANK);
        return bids.replaceRank(good, party, rank);
    }

    public int value(int party, int set) throws IndexOutOfBoundsException, IllegalArgumentException {
        needParty(party);
        needRange(set, 0, bids.allGoods());
        return bids.values[party][set];
    }

    // ---- who wins, and what it pays

    public int worth(int parties) throws IllegalArgumentException {
        needRange(parties, 0, bids.allParties());
        return auction.worthAmong(parties);
    }

    public int won(int party) throws IndexOutOfBoundsException {
        needParty(party);
        return auction.wonBy(party);
    }

    public int price(int party, int rule) throws IndexOutOfBoundsException, IllegalArgumentException {
        needParty(party);
        needRange(rule, 0, RULES - 1);
        return auction.priceOf(party, rule);
    }

    public int blocks(int rule) throws IllegalArgumentException {
        needRange(rule, 0, RULES - 1);
        return auction.firstBlocking(rule);
    }

    public int gain(int party, int rule, int quarters) throws IndexOutOfBoundsException, IllegalArgumentException {
        needPartyThatIsIn(party);
        needRange(rule, 0, RULES - 1);
        needRange(quarters, 0, MOST_QUARTERS);
        return auction.gainOf(party, rule, quarters);
    }

    public int lie(int party, int rule) throws IndexOutOfBoundsException, IllegalArgumentException {
        needPartyThatIsIn(party);
        needRange(rule, 0, RULES - 1);
        return auction.bestLie(party, rule);
    }

    // ---- rising prices

    public int open(int step) throws IllegalArgumentException {
        needRange(step, 1, MOST_STEP);
        rising.begin(step);
        return bids.countIn();
    }

    public int rise(int rounds) throws IllegalArgumentException, IllegalStateException {
        needRange(rounds, 1, MOST_ROUNDS);
        if (!rising.isOn()) {
            throw new IllegalStateException("no rising prices began, or they ended");
        }
        return rising.doRounds(rounds);
    }

    public int tag(int good) throws IndexOutOfBoundsException {
        needGood(good);
        return rising.tagOf(good);
    }

    public int demand(int party) throws IndexOutOfBoundsException {
        needParty(party);
        return rising.demandOf(party);
    }

    // ---- matching, shares, picks

    public int matched(int party, int rule) throws IndexOutOfBoundsException, IllegalArgumentException {
        needParty(party);
        needRange(rule, 0, RULES - 1);
        return matching.goodFor(party, rule);
    }

    public int pair(int rule) throws IllegalArgumentException {
        needRange(rule, 0, RULES - 1);
        return matching.firstPair(rule);
    }

    public int share(int party, int rule, int estate) throws IndexOutOfBoundsException, IllegalArgumentException {
        needParty(party);
        needRange(rule, 0, RULES - 1);
        needRange(estate, 0, MOST_ESTATE);
        return shares.shareOf(party, rule, estate);
    }

    public int picks(int party) throws IndexOutOfBoundsException {
        needParty(party);
        return picking.picksOf(party);
    }

    public boolean envies(int one, int other) throws IndexOutOfBoundsException {
        needParty(one);
        needParty(other);
        return picking.doesEnvy(one, other);
    }

    // ---- votes

    public int ballot(int first, int second, int third) throws IllegalArgumentException, IllegalStateException {
        if (!Votes.isBallot(first, second, third)) {
            throw new IllegalArgumentException("no such ballot");
        }
        if (votes.count >= MOST_BALLOTS) {
            throw new IllegalStateException("no more ballots can be cast");
        }
        return votes.cast(first, second, third);
    }

    public int take() throws IllegalStateException {
        if (votes.count == 0) {
            throw new IllegalStateException("there is no ballot");
        }
        return votes.takeLast();
    }

    public int winner(int rule) throws IllegalArgumentException {
        needRange(rule, 0, VOTE_RULES - 1);
        return votes.winnerBy(rule);
    }

    public int tips(int number, int rule) throws IndexOutOfBoundsException, IllegalArgumentException {
        needIndex(number, votes.count);
        needRange(rule, 0, VOTE_RULES - 1);
        return votes.tipOf(number, rule);
    }

    public int seats(int candidate, int rule, int seats) throws IllegalArgumentException {
        needRange(candidate, 0, CANDIDATES - 1);
        needRange(rule, 0, 1);
        needRange(seats, 1, MOST_SEATS);
        return votes.seatsOf(candidate, rule, seats);
    }

    // ---- the book, and all

    public int seal(int rule) throws IllegalArgumentException, IllegalStateException {
        needRange(rule, 0, RULES - 1);
        if (book.count >= MOST_SEALED) {
            throw new IllegalStateException("the book is full");
        }
        return book.write(rule);
    }

    public int appeal(int k) throws IndexOutOfBoundsException {
        needIndex(k, book.count);
        return book.changedSince(k);
    }

    public int many(int what) throws IllegalArgumentException {
        needRange(what, 0, LAST_COUNT);
        return countOf(what);
    }

    public double meanPrice(int rule) throws IllegalArgumentException {
        needRange(rule, 0, RULES - 1);
        int count = bids.countIn();
        if (count == 0) {
            return 0.0;
        }
        return (double) auction.allPrices(rule) / count;
    }

    public long digest() {
        long d = DIGEST_START;
        for (int what = 0; what <= LAST_COUNT; what++) {
            d = fold(d, countOf(what));
        }
        d = fold(d, auction.worthAmong(bids.in));
        for (int rule = 0; rule < RULES; rule++) {
            d = fold(d, auction.firstBlocking(rule));
            d = fold(d, matching.firstPair(rule));
        }
        for (int party = 0; party < bids.parties; party++) {
            d = foldParty(d, party);
        }
        for (int good = 0; good < bids.goods; good++) {
            d = fold(d, rising.tagOf(good));
        }
        d = foldVotes(d);
        for (int k = 0; k < book.count; k++) {
            d = fold(d, book.changedSince(k));
        }
        return d;
    }

    private long foldParty(long start, int party) {
        long d = fold(start, auction.wonBy(party));
        d = fold(d, rising.demandOf(party));
        d = fold(d, picking.picksOf(party));
        for (int rule = 0; rule < RULES; rule++) {
            d = fold(d, auction.priceOf(party, rule));
            d = fold(d, matching.goodFor(party, rule));
            d = fold(d, shares.shareOf(party, rule, DIGEST_ESTATE));
            if (bids.isIn(party)) {
                d = fold(d, auction.bestLie(party, rule));
            }
        }
        for (int other = 0; other < bids.parties; other++) {
            d = fold(d, picking.doesEnvy(party, other) ? 1 : 0);
        }
        return d;
    }

    private long foldVotes(long start) {
        long d = start;
        for (int rule = 0; rule < VOTE_RULES; rule++) {
            d = fold(d, votes.winnerBy(rule));
        }
        for (int number = 0; number < votes.count; number++) {
            for (int rule = 0; rule < VOTE_RULES; rule++) {
                d = fold(d, votes.tipOf(number, rule));
            }
        }
        for (int candidate = 0; candidate < CANDIDATES; candidate++) {
            d = fold(d, votes.seatsOf(candidate, 0, DIGEST_SEATS));
            d = fold(d, votes.seatsOf(candidate, 1, DIGEST_SEATS));
        }
        return d;
    }

    private static long fold(long d, int number) {
        return d * DIGEST_FACTOR + number;
    }

    private int countOf(int what) {
        switch (what) {
            case 0: return bids.goods;
            case 1: return bids.parties;
            case 2: return bids.nodes;
            case 3: return bids.countIn();
            case 4: return auction.unwonGoods();
            case 5: return rising.rounds;
            case 6: return rising.ended ? 1 : 0;
            case 7: return votes.count;
            default: return book.count;
        }
    }

    private void needGood(int good) {
        needIndex(good, bids.goods);
    }

    private void needParty(int party) {
        needIndex(party, bids.parties);
    }

    private void needPartyThatIsIn(int party) {
        needParty(party);
        if (!bids.isIn(party)) {
            throw new IndexOutOfBoundsException("that party is out");
        }
    }

    private static void needIndex(int number, int count) {
        if (number < 0 || number >= count) {
            throw new IndexOutOfBoundsException("no such number");
        }
    }

    private static void needRange(int number, int least, int most) {
        if (number < least || number > most) {
            throw new IllegalArgumentException("outside its range");
        }
    }

    /** The smaller index comes first, where several numbers are the greatest. */
    private static int firstGreatest(int[] numbers) {
        int best = 0;
        for (int i = 1; i < numbers.length; i++) {
            if (numbers[i] > numbers[best]) {
                best = i;
            }
        }
        return best;
    }

    /** Goods, parties and nodes as they were told. */
    private static final class Bids {
        private static final int WANT = 0;
        private static final int XOR = 1;
        private static final int OR = 2;
        private static final int BOTH = 3;
        private static final int CAP = 4;
        private static final int MOST_WANT = 99;
        private static final int MOST_BONUS = 99;
        private static final int MOST_CAP = 200;

        private final int[] reserves = new int[MOST_GOODS];
        private final int[][] ranks = new int[MOST_GOODS][MOST_PARTIES];
        // Goods are fixed once there are nodes, so a node's amounts can be told for good as it is built.
        private final int[][] amounts = new int[MOST_NODES][GOOD_SETS];
        private final int[][] values = new int[MOST_PARTIES][GOOD_SETS];
        private final int[] nodeOf = new int[MOST_PARTIES];
        private int goods = 0;
        private int parties = 0;
        private int nodes = 0;
        private int in = 0;

        Bids() {
        }

        int allGoods() {
            return (1 << goods) - 1;
        }

        int allParties() {
            return (1 << parties) - 1;
        }

        boolean hasNode(int node) {
            return node >= 0 && node < nodes;
        }

        boolean isIn(int party) {
            return (in >> party & 1) == 1;
        }

        int countIn() {
            return Integer.bitCount(in);
        }

        int addGood(int reserve) {
            reserves[goods] = reserve;
            return goods++;
        }

        int addParty() {
            nodeOf[parties] = NONE;
            in |= 1 << parties;
            return parties++;
        }

        boolean isNodeAllowed(int kind, int a, int b, int c) {
            if (kind == WANT) {
                return a >= 1 && a <= allGoods() && b >= 1 && b <= MOST_WANT && c == 0;
            }
            if (kind < XOR || kind > CAP || !hasNode(a)) {
                return false;
            }
            if (kind == CAP) {
                return b >= 0 && b <= MOST_CAP && c == 0;
            }
            return hasNode(b) && c >= 0 && c <= (kind == BOTH ? MOST_BONUS : 0);
        }

        int addNode(int kind, int a, int b, int c) {
            for (int set = 0; set <= allGoods(); set++) {
                amounts[nodes][set] = amountOf(kind, a, b, c, set);
            }
            return nodes++;
        }

        private int amountOf(int kind, int a, int b, int c, int set) {
            switch (kind) {
                case WANT: return (set & a) == a ? b : 0;
                case XOR: return Math.max(amounts[a][set], amounts[b][set]);
                case OR: return greatestSum(amounts[a], amounts[b], 0, set);
                case BOTH: return greatestSum(amounts[a], amounts[b], c, set);
                default: return Math.min(amounts[a][set], b);
            }
        }

        private static int greatestSum(int[] one, int[] other, int bonus, int set) {
            int most = 0;
            for (int part = 0; part <= set; part++) {
                if ((part & ~set) == 0) {
                    int first = one[part];
                    int second = other[set ^ part];
                    most = Math.max(most, first + second + (first > 0 && second > 0 ? bonus : 0));
                }
            }
            return most;
        }

        int replaceBid(int party, int node) {
            int before = nodeOf[party];
            nodeOf[party] = node;
            for (int set = 0; set <= allGoods(); set++) {
                values[party][set] = hasNode(node) ? amounts[node][set] : 0;
            }
            return before;
        }

        void setIn(int party, boolean isIn) {
            in = isIn ? in | 1 << party : in & ~(1 << party);
        }

        int replaceRank(int good, int party, int rank) {
            int before = ranks[good][party];
            ranks[good][party] = rank;
            return before;
        }

        int reservesOf(int set) {
            int sum = 0;
            for (int good = 0; good < goods; good++) {
                if ((set >> good & 1) == 1) {
                    sum += reserves[good];
                }
            }
            return sum;
        }
    }

    /** Who wins what, at which price, and which lie would pay. */
    private static final class Auction {
        private static final int BID = 0;
        private static final int PIVOT = 1;
        private static final int QUARTERS = 4;

        private final Bids bids;
        // By a set of parties, then by the set of goods that is theirs to get.
        private final int[][] worths = new int[PARTY_SETS][GOOD_SETS];
        private final int[] won = new int[MOST_PARTIES];
        private final int[][] prices = new int[RULES][MOST_PARTIES];
        private final int[] told = new int[GOOD_SETS];
        // Worths among those that are in, from a party's number on, while one of them tells a lie.
        private final int[][] lied = new int[MOST_PARTIES + 1][GOOD_SETS];

        Auction(Bids bids) {
            this.bids = bids;
        }

        /** To be called after each change of goods, parties, bids, or who is in. */
        void settle() {
            tellWorths();
            findWinners();
            for (int rule = 0; rule < RULES; rule++) {
                for (int party = 0; party < bids.parties; party++) {
                    prices[rule][party] = bids.isIn(party)
                            ? priceWith(party, rule, valueWon(party), worthAmong(bids.in)) : 0;
                }
            }
        }

        private void tellWorths() {
            for (int set = 0; set <= bids.allGoods(); set++) {
                worths[0][set] = bids.reservesOf(set);
            }
            for (int among = 1; among <= bids.allParties(); among++) {
                int party = Integer.numberOfTrailingZeros(among);
                addTo(worths[among], bids.values[party], worths[among & among - 1]);
            }
        }

        private void addTo(int[] row, int[] values, int[] others) {
            for (int set = 0; set <= bids.allGoods(); set++) {
                int part = bestPart(values, others, set);
                row[set] = values[part] + others[set ^ part];
            }
        }

        /** The smallest part of the set with which it is worth most, when the others get the rest. */
        private static int bestPart(int[] values, int[] others, int set) {
            int best = 0;
            int most = others[set];
            for (int part = 1; part <= set; part++) {
                if ((part & ~set) == 0 && values[part] + others[set ^ part] > most) {
                    most = values[part] + others[set ^ part];
                    best = part;
                }
            }
            return best;
        }

        private void findWinners() {
            int goodsLeft = bids.allGoods();
            int partiesLeft = bids.in;
            for (int party = 0; party < bids.parties; party++) {
                won[party] = 0;
                if (bids.isIn(party)) {
                    partiesLeft &= ~(1 << party);
                    won[party] = bestPart(bids.values[party], worths[partiesLeft], goodsLeft);
                    goodsLeft &= ~won[party];
                }
            }
        }

        int worthAmong(int parties) {
            return worths[parties][bids.allGoods()];
        }

        int wonBy(int party) {
            return won[party];
        }

        int unwonGoods() {
            int unwon = bids.allGoods();
            for (int party = 0; party < bids.parties; party++) {
                unwon &= ~won[party];
            }
            return unwon;
        }

        int priceOf(int party, int rule) {
            return prices[rule][party];
        }

        private int priceWith(int party, int rule, int value, int worth) {
            int pivot = worthAmong(bids.in & ~(1 << party)) - (worth - value);
            if (rule == BID) {
                return value;
            }
            return rule == PIVOT ? pivot : (value + pivot) / 2;
        }

        private int valueWon(int party) {
            return bids.values[party][won[party]];
        }

        int allPrices(int rule) {
            int sum = 0;
            for (int party = 0; party < bids.parties; party++) {
                sum += priceOf(party, rule);
            }
            return sum;
        }

        int firstBlocking(int rule) {
            int seller = allPrices(rule) + bids.reservesOf(unwonGoods());
            for (int among = 1; among <= bids.allParties(); among++) {
                if ((among & ~bids.in) == 0 && worthAmong(among) > seller + surplusAmong(among, rule)) {
                    return among;
                }
            }
            return NONE;
        }

        private int surplusAmong(int among, int rule) {
            int sum = 0;
            for (int party = 0; party < bids.parties; party++) {
                if ((among >> party & 1) == 1) {
                    sum += surplusOf(party, rule);
                }
            }
            return sum;
        }

        private int surplusOf(int party, int rule) {
            return valueWon(party) - priceOf(party, rule);
        }

        int gainOf(int party, int rule, int quarters) {
            for (int set = 0; set <= bids.allGoods(); set++) {
                told[set] = quarters * bids.values[party][set] / QUARTERS;
            }
            tellLiedWorths(party);
            int set = wonByLiar(party);
            int price = priceWith(party, rule, told[set], lied[0][bids.allGoods()]);
            return bids.values[party][set] - price - surplusOf(party, rule);
        }

        private void tellLiedWorths(int liar) {
            int after = bids.in & ~((2 << liar) - 1);
            System.arraycopy(worths[after], 0, lied[liar + 1], 0, GOOD_SETS);
            addTo(lied[liar], told, lied[liar + 1]);
            for (int party = liar - 1; party >= 0; party--) {
                if (bids.isIn(party)) {
                    addTo(lied[party], bids.values[party], lied[party + 1]);
                } else {
                    System.arraycopy(lied[party + 1], 0, lied[party], 0, GOOD_SETS);
                }
            }
        }

        private int wonByLiar(int liar) {
            int goodsLeft = bids.allGoods();
            for (int party = 0; party < liar; party++) {
                if (bids.isIn(party)) {
                    goodsLeft &= ~bestPart(bids.values[party], lied[party + 1], goodsLeft);
                }
            }
            return bestPart(told, lied[liar + 1], goodsLeft);
        }

        int bestLie(int party, int rule) {
            int best = NONE;
            int most = 0;
            for (int quarters = 0; quarters <= MOST_QUARTERS; quarters++) {
                int gained = gainOf(party, rule, quarters);
                if (gained > most) {
                    most = gained;
                    best = quarters;
                }
            }
            return best;
        }
    }

    /** Prices that rise by rounds. */
    private static final class Rising {
        private final Bids bids;
        // What a price has above its reserve, so that goods told later begin right.
        private final int[] raises = new int[MOST_GOODS];
        private final int[] limits = new int[MOST_PARTIES];
        private final int[] demands = new int[MOST_PARTIES];
        private int step = 0;
        private int rounds = 0;
        private boolean began = false;
        private boolean ended = false;

        Rising(Bids bids) {
            this.bids = bids;
        }

        void begin(int newStep) {
            step = newStep;
            rounds = 0;
            began = true;
            ended = false;
            for (int good = 0; good < MOST_GOODS; good++) {
                raises[good] = 0;
            }
            for (int party = 0; party < MOST_PARTIES; party++) {
                limits[party] = MOST_GOODS;
                demands[party] = 0;
            }
        }

        boolean isOn() {
            return began && !ended;
        }

        int tagOf(int good) {
            return began ? bids.reserves[good] + raises[good] : NONE;
        }

        int demandOf(int party) {
            return demands[party];
        }

        int doRounds(int most) {
            int done = 0;
            while (done < most && !ended) {
                doRound();
                done++;
            }
            return done;
        }

        private void doRound() {
            for (int party = 0; party < bids.parties; party++) {
                demands[party] = 0;
                if (bids.isIn(party)) {
                    demands[party] = wishOf(party);
                    limits[party] = Integer.bitCount(demands[party]);
                }
            }
            boolean rose = raiseTags();
            rounds++;
            ended = !rose || rounds >= MOST_ROUNDS;
        }

        private int wishOf(int party) {
            int best = 0;
            for (int set = 1; set <= bids.allGoods(); set++) {
                if (Integer.bitCount(set) <= limits[party] && surplus(party, set) > surplus(party, best)) {
                    best = set;
                }
            }
            return best;
        }

        private int surplus(int party, int set) {
            int left = bids.values[party][set];
            for (int good = 0; good < bids.goods; good++) {
                if ((set >> good & 1) == 1) {
                    left -= tagOf(good);
                }
            }
            return left;
        }

        private boolean raiseTags() {
            boolean rose = false;
            for (int good = 0; good < bids.goods; good++) {
                if (countDemanding(good) > 1) {
                    raises[good] += step;
                    rose = true;
                }
            }
            return rose;
        }

        private int countDemanding(int good) {
            int count = 0;
            for (int party = 0; party < bids.parties; party++) {
                count += demands[party] >> good & 1;
            }
            return count;
        }
    }

    /** One good at most for each party that is in, and one party at most for each good. */
    private static final class Matching {
        private static final int BY_PARTIES = 0;
        private static final int BY_GOODS = 1;
        private static final int PAIR_FACTOR = 10;
        private static final int MOST_PROPOSALS = MOST_GOODS * MOST_PARTIES;

        private final Bids bids;
        // Greater wishes are for what one would rather have, no two of a row alike; 0 is for what one never takes.
        private final int[][] partyWishes = new int[MOST_PARTIES][MOST_GOODS];
        private final int[][] goodWishes = new int[MOST_GOODS][MOST_PARTIES];
        private final int[] goodOf = new int[MOST_PARTIES];
        private final int[] partyOf = new int[MOST_GOODS];
        private final int[] asked = new int[MOST_PARTIES];

        Matching(Bids bids) {
            this.bids = bids;
        }

        int goodFor(int party, int rule) {
            match(rule);
            return goodOf[party];
        }

        int firstPair(int rule) {
            match(rule);
            for (int party = 0; party < bids.parties; party++) {
                for (int good = 0; good < bids.goods; good++) {
                    if (wouldRather(partyWishes[party], good, goodOf[party])
                            && wouldRather(goodWishes[good], party, partyOf[good])) {
                        return PAIR_FACTOR * party + good;
                    }
                }
            }
            return NONE;
        }

        private void match(int rule) {
            for (int party = 0; party < MOST_PARTIES; party++) {
                goodOf[party] = NONE;
                asked[party] = 0;
                for (int good = 0; good < MOST_GOODS; good++) {
                    partyOf[good] = NONE;
                    partyWishes[party][good] = partyWish(party, good);
                    goodWishes[good][party] = goodWish(good, party);
                }
            }
            if (rule == BY_PARTIES) {
                propose(partyWishes, goodWishes, goodOf, partyOf);
            } else if (rule == BY_GOODS) {
                propose(goodWishes, partyWishes, partyOf, goodOf);
            } else {
                takeRings();
            }
        }

        private int partyWish(int party, int good) {
            int value = bids.isIn(party) ? bids.values[party][1 << good] : 0;
            return value > 0 ? value * MOST_GOODS + MOST_GOODS - good : 0;
        }

        private int goodWish(int good, int party) {
            return bids.isIn(party) ? (MOST_RANK - bids.ranks[good][party]) * MOST_PARTIES + MOST_PARTIES - party : 0;
        }

        private static boolean wouldRather(int[] wishes, int one, int held) {
            return wishes[one] > (held == NONE ? 0 : wishes[held]);
        }

        private static int favourite(int[] wishes, int among) {
            int best = NONE;
            int most = 0;
            for (int other = 0; other < wishes.length; other++) {
                if ((among >> other & 1) == 1 && wishes[other] > most) {
                    most = wishes[other];
                    best = other;
                }
            }
            return best;
        }

        /** Those that are asked and never take the one that asks refuse, which is as if they were not asked. */
        private void propose(int[][] wishes, int[][] answers, int[] mateOf, int[] holderOf) {
            for (int count = 0; count < MOST_PROPOSALS; count++) {
                int one = firstThatAsks(wishes, mateOf);
                if (one == NONE) {
                    return;
                }
                int other = favourite(wishes[one], ~asked[one]);
                if (other == NONE) {
                    return;
                }
                asked[one] |= 1 << other;
                if (wouldRather(answers[other], one, holderOf[other])) {
                    if (holderOf[other] != NONE) {
                        mateOf[holderOf[other]] = NONE;
                    }
                    mateOf[one] = other;
                    holderOf[other] = one;
                }
            }
        }

        private int firstThatAsks(int[][] wishes, int[] mateOf) {
            for (int one = 0; one < mateOf.length; one++) {
                if (mateOf[one] == NONE && favourite(wishes[one], ~asked[one]) != NONE) {
                    return one;
                }
            }
            return NONE;
        }

        private void takeRings() {
            int partiesLeft = bids.in;
            int goodsLeft = bids.allGoods();
            for (int turn = 0; turn < MOST_PARTIES; turn++) {
                for (int party = 0; party < MOST_PARTIES; party++) {
                    if (favourite(partyWishes[party], goodsLeft) == NONE) {
                        partiesLeft &= ~(1 << party);
                    }
                }
                if (partiesLeft != 0) {
                    takeRing(partiesLeft, goodsLeft);
                }
                for (int party = 0; party < MOST_PARTIES; party++) {
                    if (goodOf[party] != NONE) {
                        partiesLeft &= ~(1 << party);
                        goodsLeft &= ~(1 << goodOf[party]);
                    }
                }
            }
        }

        /** Rings do not touch, and stay until they are taken: one at a time gives the same as all at once. */
        private void takeRing(int partiesLeft, int goodsLeft) {
            int party = Integer.numberOfTrailingZeros(partiesLeft);
            // After as many steps as there are parties, the walk has come onto a ring.
            for (int step = 0; step < MOST_PARTIES; step++) {
                party = nextOnRing(party, partiesLeft, goodsLeft);
            }
            for (int step = 0; step < MOST_PARTIES && goodOf[party] == NONE; step++) {
                goodOf[party] = favourite(partyWishes[party], goodsLeft);
                int next = nextOnRing(party, partiesLeft, goodsLeft);
                if (goodOf[party] != NONE) {
                    partyOf[goodOf[party]] = party;
                }
                party = next;
            }
        }

        private int nextOnRing(int party, int partiesLeft, int goodsLeft) {
            int good = favourite(partyWishes[party], goodsLeft);
            int next = good == NONE ? NONE : favourite(goodWishes[good], partiesLeft);
            return next == NONE ? party : next;
        }
    }

    /** An estate that is shared by claims. */
    private static final class Shares {
        private static final int PART = 0;
        private static final int EVEN = 1;

        private final Bids bids;
        private final int[] claims = new int[MOST_PARTIES];
        private final int[] halves = new int[MOST_PARTIES];
        private final int[] given = new int[MOST_PARTIES];
        private final int[] missing = new int[MOST_PARTIES];

        Shares(Bids bids) {
            this.bids = bids;
        }

        int shareOf(int party, int rule, int estate) {
            int all = tellClaims();
            if (estate >= all) {
                return claims[party];
            }
            if (rule == PART) {
                giveByParts(estate, all);
            } else if (rule == EVEN) {
                giveEvenly(claims, estate);
            } else {
                for (int each = 0; each < MOST_PARTIES; each++) {
                    halves[each] = claims[each] / 2;
                }
                giveToFarthest(giveEvenly(halves, estate));
            }
            return given[party];
        }

        private int tellClaims() {
            int all = 0;
            for (int party = 0; party < MOST_PARTIES; party++) {
                given[party] = 0;
                claims[party] = 0;
                if (bids.isIn(party)) {
                    claims[party] = bids.values[party][bids.allGoods()];
                    all += claims[party];
                }
            }
            return all;
        }

        private void giveByParts(int estate, int all) {
            int left = estate;
            for (int party = 0; party < MOST_PARTIES; party++) {
                given[party] = all > 0 ? estate * claims[party] / all : 0;
                missing[party] = estate * claims[party] - given[party] * all;
                left -= given[party];
            }
            for (int turn = 0; turn < left; turn++) {
                int party = firstGreatest(missing);
                given[party]++;
                missing[party] = NONE;
            }
        }

        /** Returns what is left when each has as much as its limit. */
        private int giveEvenly(int[] limits, int estate) {
            for (int left = estate; left > 0; left--) {
                int party = leastBelow(limits);
                if (party == NONE) {
                    return left;
                }
                given[party]++;
            }
            return 0;
        }

        private int leastBelow(int[] limits) {
            int least = NONE;
            for (int party = 0; party < MOST_PARTIES; party++) {
                if (given[party] < limits[party] && (least == NONE || given[party] < given[least])) {
                    least = party;
                }
            }
            return least;
        }

        private void giveToFarthest(int estate) {
            for (int left = estate; left > 0; left--) {
                for (int party = 0; party < MOST_PARTIES; party++) {
                    missing[party] = claims[party] - given[party];
                }
                given[firstGreatest(missing)]++;
            }
        }
    }

    /** Goods that are picked in turn, and who envies whom for them. */
    private static final class Picks {
        private final Bids bids;
        private final int[] picked = new int[MOST_PARTIES];

        Picks(Bids bids) {
            this.bids = bids;
        }

        int picksOf(int party) {
            pickAll();
            return picked[party];
        }

        boolean doesEnvy(int one, int other) {
            pickAll();
            int own = bids.values[one][picked[one]];
            for (int good = 0; good < bids.goods; good++) {
                int alone = 1 << good;
                if ((picked[other] & alone) != 0 && own >= bids.values[one][picked[other] & ~alone]) {
                    return false;
                }
            }
            return picked[other] != 0;
        }

        private void pickAll() {
            for (int party = 0; party < MOST_PARTIES; party++) {
                picked[party] = 0;
            }
            int left = bids.allGoods();
            // Each round takes one good at least, if anyone is in.
            for (int round = 0; round < MOST_GOODS; round++) {
                for (int party = 0; party < bids.parties; party++) {
                    if (bids.isIn(party) && left != 0) {
                        int good = 1 << bestOf(party, left);
                        picked[party] |= good;
                        left &= ~good;
                    }
                }
            }
        }

        private int bestOf(int party, int left) {
            int best = Integer.numberOfTrailingZeros(left);
            for (int good = best + 1; good < bids.goods; good++) {
                if ((left >> good & 1) == 1 && bids.values[party][1 << good] > bids.values[party][1 << best]) {
                    best = good;
                }
            }
            return best;
        }
    }

    /** Ballots, and who wins by them. */
    private static final class Votes {
        private static final int FIRST = 0;
        private static final int POINTS = 1;
        private static final int RUNS = 2;
        private static final int PAIRS = 3;
        private static final int ABSENT = 3;
        private static final int ALL_CANDIDATES = (1 << CANDIDATES) - 1;
        private static final int CHOICES = CANDIDATES + 1;
        private static final int LIES = CANDIDATES * CHOICES * CHOICES;

        // By a ballot, then by a candidate: its place there, ABSENT for one that is not on it.
        private final int[][] places = new int[MOST_BALLOTS][CANDIDATES];
        private final int[] truth = new int[CANDIDATES];
        private final int[] scores = new int[CANDIDATES];
        private final int[] seated = new int[CANDIDATES];
        private int count = 0;

        Votes() {
        }

        static boolean isBallot(int first, int second, int third) {
            if (first < 0 || first >= CANDIDATES || first == second || first == third) {
                return false;
            }
            if (second < NONE || second >= CANDIDATES || third < NONE || third >= CANDIDATES) {
                return false;
            }
            return third == NONE || second != NONE && second != third;
        }

        int cast(int first, int second, int third) {
            fill(places[count], first, second, third);
            return count++;
        }

        private static void fill(int[] row, int first, int second, int third) {
            for (int candidate = 0; candidate < CANDIDATES; candidate++) {
                row[candidate] = candidate == first ? 0
                        : candidate == second ? 1
                        : candidate == third ? 2 : ABSENT;
            }
        }

        int takeLast() {
            count--;
            int first = 0;
            for (int candidate = 0; candidate < CANDIDATES; candidate++) {
                if (places[count][candidate] == 0) {
                    first = candidate;
                }
            }
            return first;
        }

        int winnerBy(int rule) {
            if (count == 0) {
                return NONE;
            }
            if (rule == RUNS) {
                return lastOfRuns();
            }
            for (int candidate = 0; candidate < CANDIDATES; candidate++) {
                scores[candidate] = scoreBy(rule, candidate);
            }
            return firstGreatest(scores);
        }

        private int scoreBy(int rule, int candidate) {
            switch (rule) {
                case FIRST: return countAmongFirst(candidate, 1);
                case POINTS: return pointsOf(candidate);
                case PAIRS: return beatenLessBeating(candidate);
                default: return countAmongFirst(candidate, 2);
            }
        }

        private int countAmongFirst(int candidate, int most) {
            int sum = 0;
            for (int number = 0; number < count; number++) {
                if (places[number][candidate] < most) {
                    sum++;
                }
            }
            return sum;
        }

        private int pointsOf(int candidate) {
            int sum = 0;
            for (int number = 0; number < count; number++) {
                // One that is absent gets nothing by this, and a first place as much as there are places.
                sum += ABSENT - places[number][candidate];
            }
            return sum;
        }

        private int beatenLessBeating(int candidate) {
            int sum = 0;
            for (int other = 0; other < CANDIDATES; other++) {
                sum += Integer.signum(leadOver(candidate, other));
            }
            return sum;
        }

        private int leadOver(int candidate, int other) {
            int lead = 0;
            for (int number = 0; number < count; number++) {
                lead += Integer.signum(places[number][other] - places[number][candidate]);
            }
            return lead;
        }

        private int lastOfRuns() {
            int left = ALL_CANDIDATES;
            for (int turn = 1; turn < CANDIDATES; turn++) {
                left &= ~(1 << fewestFirst(left));
            }
            return Integer.numberOfTrailingZeros(left);
        }

        private int fewestFirst(int left) {
            for (int candidate = 0; candidate < CANDIDATES; candidate++) {
                scores[candidate] = 0;
            }
            for (int number = 0; number < count; number++) {
                int first = firstOf(left, places[number]);
                if (first != NONE) {
                    scores[first]++;
                }
            }
            int goes = NONE;
            for (int candidate = 0; candidate < CANDIDATES; candidate++) {
                if ((left >> candidate & 1) == 1 && (goes == NONE || scores[candidate] <= scores[goes])) {
                    goes = candidate;
                }
            }
            return goes;
        }

        private static int firstOf(int left, int[] row) {
            int first = NONE;
            int place = ABSENT;
            for (int candidate = 0; candidate < CANDIDATES; candidate++) {
                if ((left >> candidate & 1) == 1 && row[candidate] < place) {
                    place = row[candidate];
                    first = candidate;
                }
            }
            return first;
        }

        int tipOf(int number, int rule) {
            int honest = winnerBy(rule);
            int tip = NONE;
            int place = honest == NONE ? 0 : places[number][honest];
            System.arraycopy(places[number], 0, truth, 0, CANDIDATES);
            for (int lie = 0; lie < LIES && place > 0; lie++) {
                if (fillWithLie(number, lie)) {
                    int other = winnerBy(rule);
                    if (other != NONE && truth[other] < place) {
                        tip = other;
                        place = truth[other];
                    }
                }
            }
            System.arraycopy(truth, 0, places[number], 0, CANDIDATES);
            return tip;
        }

        /** Each number below LIES stands for a ballot, or for none that is allowed. */
        private boolean fillWithLie(int number, int lie) {
            int first = lie / (CHOICES * CHOICES);
            int second = lie / CHOICES % CHOICES + NONE;
            int third = lie % CHOICES + NONE;
            boolean isAllowed = isBallot(first, second, third);
            if (isAllowed) {
                fill(places[number], first, second, third);
            }
            return isAllowed;
        }

        int seatsOf(int candidate, int rule, int seats) {
            if (count == 0) {
                return 0;
            }
            for (int each = 0; each < CANDIDATES; each++) {
                seated[each] = 0;
                scores[each] = countAmongFirst(each, 1);
            }
            for (int seat = 0; seat < seats; seat++) {
                seated[nextSeated(rule)]++;
            }
            return seated[candidate];
        }

        private int nextSeated(int rule) {
            int best = 0;
            for (int candidate = 1; candidate < CANDIDATES; candidate++) {
                // Both fractions times both divisors, which are above 0, so that nothing is cut.
                if (scores[candidate] * seatDivisor(best, rule) > scores[best] * seatDivisor(candidate, rule)) {
                    best = candidate;
                }
            }
            return best;
        }

        private int seatDivisor(int candidate, int rule) {
            return rule == 0 ? seated[candidate] + 1 : 2 * seated[candidate] + 1;
        }
    }

    /** What was won and paid, as it was sealed. */
    private static final class Book {
        private final Bids bids;
        private final Auction auction;
        private final int[] rules = new int[MOST_SEALED];
        // Parties that come after the sealing find the 0 here that they are compared with.
        private final int[][] sealedSets = new int[MOST_SEALED][MOST_PARTIES];
        private final int[][] sealedPrices = new int[MOST_SEALED][MOST_PARTIES];
        private int count = 0;

        Book(Bids bids, Auction auction) {
            this.bids = bids;
            this.auction = auction;
        }

        int write(int rule) {
            rules[count] = rule;
            for (int party = 0; party < bids.parties; party++) {
                sealedSets[count][party] = auction.wonBy(party);
                sealedPrices[count][party] = auction.priceOf(party, rule);
            }
            return count++;
        }

        int changedSince(int k) {
            int changed = 0;
            for (int party = 0; party < bids.parties; party++) {
                if (sealedSets[k][party] != auction.wonBy(party)
                        || sealedPrices[k][party] != auction.priceOf(party, rules[k])) {
                    changed |= 1 << party;
                }
            }
            return changed;
        }
    }
}
