import java.util.ArrayList;
import java.util.Arrays;
import java.util.Collections;
import java.util.HashMap;
import java.util.List;
import java.util.Map;

/**
 * The document in its slowest words: every way, every lie and every subset is tried out, nothing is kept.
 * RandomRunsTest holds PivotalMarket against it.
 */
final class PlainMarket {
    private static final int NONE = -1;

    private final List<Integer> reserves = new ArrayList<>();
    private final List<int[]> nodes = new ArrayList<>();
    private final List<Integer> bids = new ArrayList<>();
    private final List<Boolean> in = new ArrayList<>();
    private final Map<String, Integer> ranks = new HashMap<>();
    private final List<List<Integer>> ballots = new ArrayList<>();
    private final List<int[]> book = new ArrayList<>();

    private boolean began = false;
    private boolean ended = false;
    private int step = 0;
    private int rounds = 0;
    private Map<Integer, Integer> tags = new HashMap<>();
    private Map<Integer, Integer> limits = new HashMap<>();
    private Map<Integer, Integer> demands = new HashMap<>();

    // ---- goods, parties, bids

    int good(int reserve) {
        argument(reserve >= 0 && reserve <= 50);
        state(reserves.size() < 4 && nodes.isEmpty());
        reserves.add(reserve);
        return reserves.size() - 1;
    }

    int party() {
        state(bids.size() < 5);
        bids.add(NONE);
        in.add(true);
        return bids.size() - 1;
    }

    int node(int kind, int a, int b, int c) {
        int goods = 1 << reserves.size();
        boolean isA = a >= 0 && a < nodes.size();
        boolean isB = b >= 0 && b < nodes.size();
        switch (kind) {
            case 0 -> argument(a > 0 && a < goods && b >= 1 && b <= 99 && c == 0);
            case 1, 2 -> argument(isA && isB && c == 0);
            case 3 -> argument(isA && isB && c >= 0 && c <= 99);
            case 4 -> argument(isA && b >= 0 && b <= 200 && c == 0);
            default -> argument(false);
        }
        state(nodes.size() < 30);
        nodes.add(new int[] {kind, a, b, c});
        return nodes.size() - 1;
    }

    int bid(int party, int node) {
        index(party, bids.size());
        argument(node >= NONE && node < nodes.size());
        return bids.set(party, node);
    }

    int let(int party, boolean isIn) {
        index(party, bids.size());
        in.set(party, isIn);
        return insiders().size();
    }

    int rank(int good, int party, int rank) {
        index(good, reserves.size());
        index(party, bids.size());
        argument(rank >= 0 && rank <= 9);
        Integer before = ranks.put(good + " " + party, rank);
        return before == null ? 0 : before;
    }

    int value(int party, int set) {
        index(party, bids.size());
        argument(set >= 0 && set <= allGoods());
        return told(party, set);
    }

    private int told(int party, int set) {
        return bids.get(party) == NONE ? 0 : amount(bids.get(party), set, new HashMap<>());
    }

    private int amount(int node, int set, Map<Integer, Integer> known) {
        int key = node * 16 + set;
        if (known.containsKey(key)) {
            return known.get(key);
        }
        int[] n = nodes.get(node);
        int answer = 0;
        switch (n[0]) {
            case 0 -> answer = (set | n[1]) == set ? n[2] : 0;
            case 1 -> answer = Math.max(amount(n[1], set, known), amount(n[2], set, known));
            case 4 -> answer = Math.min(amount(n[1], set, known), n[2]);
            default -> {
                for (int part = 0; part < 16; part++) {
                    if ((part | set) == set) {
                        int one = amount(n[1], part, known);
                        int other = amount(n[2], set - part, known);
                        answer = Math.max(answer, one + other + (n[0] == 3 && one > 0 && other > 0 ? n[3] : 0));
                    }
                }
            }
        }
        known.put(key, answer);
        return answer;
    }

    private int allGoods() {
        return (1 << reserves.size()) - 1;
    }

    private List<Integer> insiders() {
        List<Integer> list = new ArrayList<>();
        for (int i = 0; i < in.size(); i++) {
            if (in.get(i)) {
                list.add(i);
            }
        }
        return list;
    }

    private int reservesOf(int set) {
        int sum = 0;
        for (int g = 0; g < reserves.size(); g++) {
            sum += has(set, g) ? reserves.get(g) : 0;
        }
        return sum;
    }

    private static boolean has(int set, int k) {
        return (set & (1 << k)) != 0;
    }

    // ---- who wins, and what it pays

    /** By party, then by set: what each tells; with a lie of one, if liar is a party. */
    private int[][] table(int liar, int quarters) {
        int[][] table = new int[bids.size()][allGoods() + 1];
        for (int i = 0; i < table.length; i++) {
            for (int set = 0; set <= allGoods(); set++) {
                table[i][set] = i == liar ? quarters * told(i, set) / 4 : told(i, set);
            }
        }
        return table;
    }

    /** The best way: its WORTH first, then the set of each PARTY. */
    private int[] bestWay(List<Integer> among, int[][] table) {
        int[] best = null;
        int goods = reserves.size();
        int ways = (int) Math.pow(among.size() + 1, goods);
        for (int way = 0; way < ways; way++) {
            int[] sets = new int[bids.size() + 1];
            int rest = way;
            int unwon = 0;
            for (int g = 0; g < goods; g++) {
                int who = rest % (among.size() + 1);
                rest /= among.size() + 1;
                if (who == among.size()) {
                    unwon += 1 << g;
                } else {
                    sets[among.get(who) + 1] += 1 << g;
                }
            }
            sets[0] = reservesOf(unwon);
            for (int i : among) {
                sets[0] += table[i][sets[i + 1]];
            }
            if (best == null || sets[0] > best[0] || sets[0] == best[0] && Arrays.compare(sets, best) < 0) {
                best = sets;
            }
        }
        return best;
    }

    private List<Integer> membersOf(int set) {
        List<Integer> list = new ArrayList<>();
        for (int i = 0; i < bids.size(); i++) {
            if (has(set, i)) {
                list.add(i);
            }
        }
        return list;
    }

    int worth(int parties) {
        argument(parties >= 0 && parties < 1 << bids.size());
        return bestWay(membersOf(parties), table(NONE, 4))[0];
    }

    int won(int party) {
        index(party, bids.size());
        return bestWay(insiders(), table(NONE, 4))[party + 1];
    }

    int price(int party, int rule) {
        index(party, bids.size());
        argument(rule >= 0 && rule <= 2);
        return in.get(party) ? priceBy(party, rule, table(NONE, 4)) : 0;
    }

    private int priceBy(int party, int rule, int[][] table) {
        int[] way = bestWay(insiders(), table);
        int value = table[party][way[party + 1]];
        List<Integer> others = insiders();
        others.remove(Integer.valueOf(party));
        int pivot = bestWay(others, table)[0] - (way[0] - value);
        return rule == 0 ? value : rule == 1 ? pivot : Math.floorDiv(value + pivot, 2);
    }

    int blocks(int rule) {
        argument(rule >= 0 && rule <= 2);
        int[][] table = table(NONE, 4);
        int[] way = bestWay(insiders(), table);
        int[] prices = new int[bids.size()];
        int seller = 0;
        int unwon = allGoods();
        for (int i : insiders()) {
            prices[i] = priceBy(i, rule, table);
            seller += prices[i];
            unwon -= way[i + 1];
        }
        seller += reservesOf(unwon);
        for (int set = 1; set < 1 << bids.size(); set++) {
            if (insiders().containsAll(membersOf(set))) {
                int have = seller;
                for (int i : membersOf(set)) {
                    have += table[i][way[i + 1]] - prices[i];
                }
                if (bestWay(membersOf(set), table)[0] > have) {
                    return set;
                }
            }
        }
        return NONE;
    }

    int gain(int party, int rule, int quarters) {
        index(party, bids.size());
        if (!in.get(party)) {
            throw new IndexOutOfBoundsException();
        }
        argument(rule >= 0 && rule <= 2 && quarters >= 0 && quarters <= 8);
        return netOf(party, rule, quarters) - netOf(party, rule, 4);
    }

    private int netOf(int party, int rule, int quarters) {
        int[][] table = table(party, quarters);
        return told(party, bestWay(insiders(), table)[party + 1]) - priceBy(party, rule, table);
    }

    int lie(int party, int rule) {
        List<Integer> gains = new ArrayList<>();
        for (int k = 0; k <= 8; k++) {
            gains.add(gain(party, rule, k));
        }
        int most = Collections.max(gains);
        return most > 0 ? gains.indexOf(most) : NONE;
    }

    // ---- rising prices

    int open(int newStep) {
        argument(newStep >= 1 && newStep <= 20);
        began = true;
        ended = false;
        step = newStep;
        rounds = 0;
        tags = new HashMap<>();
        limits = new HashMap<>();
        demands = new HashMap<>();
        return insiders().size();
    }

    int rise(int most) {
        argument(most >= 1 && most <= 40);
        state(began && !ended);
        int done = 0;
        while (done < most && !ended) {
            round();
            done++;
        }
        return done;
    }

    private int tagNow(int good) {
        return tags.getOrDefault(good, reserves.get(good));
    }

    private void round() {
        demands = new HashMap<>();
        for (int i : insiders()) {
            int best = NONE;
            int most = 0;
            for (int set = 0; set <= allGoods(); set++) {
                int net = told(i, set);
                for (int g = 0; g < reserves.size(); g++) {
                    net -= has(set, g) ? tagNow(g) : 0;
                }
                if (Integer.bitCount(set) <= limits.getOrDefault(i, 4) && (best == NONE || net > most)) {
                    best = set;
                    most = net;
                }
            }
            demands.put(i, best);
            limits.put(i, Integer.bitCount(best));
        }
        boolean rose = false;
        for (int g = 0; g < reserves.size(); g++) {
            int good = g;
            if (demands.values().stream().filter(set -> has(set, good)).count() > 1) {
                tags.put(g, tagNow(g) + step);
                rose = true;
            }
        }
        rounds++;
        ended = !rose || rounds == 40;
    }

    int tag(int good) {
        index(good, reserves.size());
        return began ? tagNow(good) : NONE;
    }

    int demand(int party) {
        index(party, bids.size());
        return demands.getOrDefault(party, 0);
    }

    // ---- matching

    /** The goods that a party likes, the one it likes most first. */
    private List<Integer> liked(int party) {
        List<Integer> list = new ArrayList<>();
        for (int g = 0; g < reserves.size(); g++) {
            if (told(party, 1 << g) > 0) {
                list.add(g);
            }
        }
        list.sort((g, h) -> told(party, 1 << h) - told(party, 1 << g));
        return list;
    }

    /** Parties in the order in which a good would rather have them. */
    private List<Integer> ranked(int good, List<Integer> parties) {
        List<Integer> list = new ArrayList<>(parties);
        list.sort((i, j) -> rankOf(good, i) - rankOf(good, j));
        return list;
    }

    private int rankOf(int good, int party) {
        return ranks.getOrDefault(good + " " + party, 0);
    }

    private Map<Integer, Integer> matching(int rule) {
        return rule == 0 ? byParties() : rule == 1 ? byGoods() : byRings();
    }

    private Map<Integer, Integer> byParties() {
        Map<Integer, List<Integer>> toAsk = new HashMap<>();
        Map<Integer, Integer> goodOf = new HashMap<>();
        for (int i : insiders()) {
            toAsk.put(i, liked(i));
        }
        boolean goesOn = true;
        while (goesOn) {
            goesOn = false;
            for (int i : insiders()) {
                if (!goodOf.containsKey(i) && !toAsk.get(i).isEmpty()) {
                    int g = toAsk.get(i).remove(0);
                    List<Integer> rivals = new ArrayList<>();
                    rivals.add(i);
                    for (Map.Entry<Integer, Integer> e : goodOf.entrySet()) {
                        if (e.getValue() == g) {
                            rivals.add(e.getKey());
                        }
                    }
                    Collections.sort(rivals);
                    goodOf.keySet().removeAll(rivals);
                    goodOf.put(ranked(g, rivals).get(0), g);
                    goesOn = true;
                    break;
                }
            }
        }
        return goodOf;
    }

    private Map<Integer, Integer> byGoods() {
        Map<Integer, List<Integer>> toAsk = new HashMap<>();
        Map<Integer, Integer> goodOf = new HashMap<>();
        for (int g = 0; g < reserves.size(); g++) {
            List<Integer> likers = new ArrayList<>();
            for (int i : insiders()) {
                if (liked(i).contains(g)) {
                    likers.add(i);
                }
            }
            toAsk.put(g, ranked(g, likers));
        }
        boolean goesOn = true;
        while (goesOn) {
            goesOn = false;
            for (int g = 0; g < reserves.size(); g++) {
                if (!goodOf.containsValue(g) && !toAsk.get(g).isEmpty()) {
                    int i = toAsk.get(g).remove(0);
                    List<Integer> order = liked(i);
                    if (!goodOf.containsKey(i) || order.indexOf(g) < order.indexOf(goodOf.get(i))) {
                        goodOf.put(i, g);
                    }
                    goesOn = true;
                    break;
                }
            }
        }
        return goodOf;
    }

    private Map<Integer, Integer> byRings() {
        Map<Integer, Integer> goodOf = new HashMap<>();
        List<Integer> parties = insiders();
        List<Integer> goods = new ArrayList<>();
        for (int g = 0; g < reserves.size(); g++) {
            goods.add(g);
        }
        while (!parties.isEmpty()) {
            Map<Integer, Integer> wanted = new HashMap<>();
            Map<Integer, Integer> next = new HashMap<>();
            List<Integer> leaving = new ArrayList<>();
            for (int i : parties) {
                List<Integer> order = liked(i);
                order.retainAll(goods);
                if (order.isEmpty()) {
                    leaving.add(i);
                } else {
                    wanted.put(i, order.get(0));
                    next.put(i, ranked(order.get(0), parties).get(0));
                }
            }
            for (int i : parties) {
                Integer at = i;
                boolean isRing = false;
                for (int k = 0; k < 5 && at != null && !isRing; k++) {
                    at = next.get(at);
                    isRing = at != null && at == i;
                }
                if (isRing) {
                    goodOf.put(i, wanted.get(i));
                    leaving.add(i);
                }
            }
            parties.removeAll(leaving);
            goods.removeAll(goodOf.values());
        }
        return goodOf;
    }

    int matched(int party, int rule) {
        index(party, bids.size());
        argument(rule >= 0 && rule <= 2);
        return matching(rule).getOrDefault(party, NONE);
    }

    int pair(int rule) {
        argument(rule >= 0 && rule <= 2);
        Map<Integer, Integer> goodOf = matching(rule);
        for (int i : insiders()) {
            for (int g = 0; g < reserves.size(); g++) {
                List<Integer> order = liked(i);
                boolean wants = order.contains(g)
                        && (!goodOf.containsKey(i) || order.indexOf(g) < order.indexOf(goodOf.get(i)));
                boolean isTaken = false;
                for (int j : insiders()) {
                    if (goodOf.containsKey(j) && goodOf.get(j) == g) {
                        List<Integer> ranking = ranked(g, insiders());
                        isTaken = ranking.indexOf(j) <= ranking.indexOf(i);
                    }
                }
                if (wants && !isTaken) {
                    return 10 * i + g;
                }
            }
        }
        return NONE;
    }

    // ---- shares and picks

    int share(int party, int rule, int estate) {
        index(party, bids.size());
        argument(rule >= 0 && rule <= 2 && estate >= 0 && estate <= 300);
        if (!in.get(party)) {
            return 0;
        }
        Map<Integer, Integer> claims = new HashMap<>();
        int all = 0;
        for (int i : insiders()) {
            claims.put(i, told(i, allGoods()));
            all += claims.get(i);
        }
        if (estate >= all) {
            return claims.get(party);
        }
        Map<Integer, Integer> got = new HashMap<>();
        int left = estate;
        for (int i : insiders()) {
            got.put(i, rule == 0 ? estate * claims.get(i) / all : 0);
            left -= got.get(i);
        }
        int total = all;
        if (rule == 0) {
            List<Integer> order = insiders();
            order.sort((i, j) -> estate * claims.get(j) % total - estate * claims.get(i) % total);
            for (int i : order.subList(0, left)) {
                got.merge(i, 1, Integer::sum);
            }
            return got.get(party);
        }
        while (left > 0) {
            int to = NONE;
            for (int i : insiders()) {
                int limit = rule == 1 ? claims.get(i) : claims.get(i) / 2;
                if (got.get(i) < limit && (to == NONE || got.get(i) < got.get(to))) {
                    to = i;
                }
            }
            if (to == NONE) {
                for (int i : insiders()) {
                    if (to == NONE || claims.get(i) - got.get(i) > claims.get(to) - got.get(to)) {
                        to = i;
                    }
                }
            }
            got.merge(to, 1, Integer::sum);
            left--;
        }
        return got.get(party);
    }

    private Map<Integer, Integer> allPicks() {
        Map<Integer, Integer> picks = new HashMap<>();
        int left = allGoods();
        while (left != 0 && !insiders().isEmpty()) {
            for (int i : insiders()) {
                int best = NONE;
                for (int g = 0; g < reserves.size(); g++) {
                    if (has(left, g) && (best == NONE || told(i, 1 << g) > told(i, 1 << best))) {
                        best = g;
                    }
                }
                if (best != NONE) {
                    picks.merge(i, 1 << best, Integer::sum);
                    left -= 1 << best;
                }
            }
        }
        return picks;
    }

    int picks(int party) {
        index(party, bids.size());
        return allPicks().getOrDefault(party, 0);
    }

    boolean envies(int one, int other) {
        index(one, bids.size());
        index(other, bids.size());
        int own = told(one, picks(one));
        int its = picks(other);
        for (int g = 0; g < 4; g++) {
            if (has(its, g) && own >= told(one, its - (1 << g))) {
                return false;
            }
        }
        return its != 0;
    }

    // ---- votes

    int ballot(int first, int second, int third) {
        argument(first >= 0 && first <= 3);
        argument(second >= NONE && second <= 3 && third >= NONE && third <= 3);
        argument(first != second && first != third && (second == NONE || second != third));
        argument(third == NONE || second != NONE);
        state(ballots.size() < 8);
        List<Integer> ballot = new ArrayList<>(List.of(first, second, third));
        ballot.removeAll(List.of(NONE));
        ballots.add(ballot);
        return ballots.size() - 1;
    }

    int take() {
        state(!ballots.isEmpty());
        return ballots.remove(ballots.size() - 1).get(0);
    }

    int winner(int rule) {
        argument(rule >= 0 && rule <= 4);
        return winnerOf(ballots, rule);
    }

    private static boolean isAhead(List<Integer> ballot, int c, int d) {
        return ballot.contains(c) && (!ballot.contains(d) || ballot.indexOf(c) < ballot.indexOf(d));
    }

    private static int winnerOf(List<List<Integer>> ballots, int rule) {
        if (ballots.isEmpty()) {
            return NONE;
        }
        if (rule == 2) {
            return runs(ballots);
        }
        List<Integer> scores = new ArrayList<>();
        for (int c = 0; c < 4; c++) {
            int score = 0;
            for (List<Integer> b : ballots) {
                int at = b.indexOf(c);
                score += rule == 0 && at == 0 ? 1 : 0;
                score += rule == 1 && at >= 0 ? 3 - at : 0;
                score += rule == 4 && (at == 0 || at == 1) ? 1 : 0;
            }
            for (int d = 0; d < 4 && rule == 3; d++) {
                int one = c;
                int other = d;
                long ahead = ballots.stream().filter(b -> isAhead(b, one, other)).count();
                long behind = ballots.stream().filter(b -> isAhead(b, other, one)).count();
                score += ahead > behind ? 1 : ahead < behind ? -1 : 0;
            }
            scores.add(score);
        }
        return scores.indexOf(Collections.max(scores));
    }

    private static int runs(List<List<Integer>> ballots) {
        List<Integer> left = new ArrayList<>(List.of(0, 1, 2, 3));
        while (left.size() > 1) {
            int goes = NONE;
            int fewest = 0;
            for (int c : left) {
                int firsts = 0;
                for (List<Integer> b : ballots) {
                    List<Integer> still = new ArrayList<>(b);
                    still.retainAll(left);
                    firsts += !still.isEmpty() && still.get(0) == c ? 1 : 0;
                }
                if (goes == NONE || firsts <= fewest) {
                    goes = c;
                    fewest = firsts;
                }
            }
            left.remove(Integer.valueOf(goes));
        }
        return left.get(0);
    }

    int tips(int number, int rule) {
        index(number, ballots.size());
        argument(rule >= 0 && rule <= 4);
        List<Integer> truth = ballots.get(number);
        int honest = winnerOf(ballots, rule);
        List<Integer> others = new ArrayList<>();
        for (int c = 0; c < 4; c++) {
            addWinners(others, number, rule, List.of(c));
            for (int d = 0; d < 4; d++) {
                if (d != c) {
                    addWinners(others, number, rule, List.of(c, d));
                }
                for (int e = 0; e < 4; e++) {
                    if (d != c && e != c && e != d) {
                        addWinners(others, number, rule, List.of(c, d, e));
                    }
                }
            }
        }
        for (int c : truth) {
            if (isAhead(truth, c, honest) && others.contains(c)) {
                return c;
            }
        }
        return NONE;
    }

    private void addWinners(List<Integer> winners, int number, int rule, List<Integer> lie) {
        List<List<Integer>> told = new ArrayList<>(ballots);
        told.set(number, lie);
        winners.add(winnerOf(told, rule));
    }

    int seats(int candidate, int rule, int seats) {
        argument(candidate >= 0 && candidate <= 3 && (rule == 0 || rule == 1) && seats >= 1 && seats <= 30);
        if (ballots.isEmpty()) {
            return 0;
        }
        int[] got = new int[4];
        for (int seat = 0; seat < seats; seat++) {
            int best = NONE;
            double most = 0;
            for (int c = 0; c < 4; c++) {
                int one = c;
                double firsts = ballots.stream().filter(b -> b.get(0) == one).count();
                double quotient = firsts / (rule == 0 ? got[c] + 1 : 2 * got[c] + 1);
                if (best == NONE || quotient > most) {
                    best = c;
                    most = quotient;
                }
            }
            got[best]++;
        }
        return got[candidate];
    }

    // ---- the book, and all

    int seal(int rule) {
        argument(rule >= 0 && rule <= 2);
        state(book.size() < 8);
        int[] page = new int[11];
        page[10] = rule;
        for (int i = 0; i < bids.size(); i++) {
            page[i] = won(i);
            page[5 + i] = price(i, rule);
        }
        book.add(page);
        return book.size() - 1;
    }

    int appeal(int k) {
        index(k, book.size());
        int set = 0;
        for (int i = 0; i < bids.size(); i++) {
            boolean isSame = won(i) == book.get(k)[i] && price(i, book.get(k)[10]) == book.get(k)[5 + i];
            set += isSame ? 0 : 1 << i;
        }
        return set;
    }

    int many(int what) {
        argument(what >= 0 && what <= 8);
        int unwon = allGoods();
        for (int i = 0; what == 4 && i < bids.size(); i++) {
            unwon -= won(i);
        }
        return List.of(reserves.size(), bids.size(), nodes.size(), insiders().size(), unwon,
                began ? rounds : 0, ended ? 1 : 0, ballots.size(), book.size()).get(what);
    }

    double meanPrice(int rule) {
        argument(rule >= 0 && rule <= 2);
        return insiders().stream().mapToInt(i -> price(i, rule)).average().orElse(0);
    }

    long digest() {
        List<Integer> all = new ArrayList<>();
        for (int what = 0; what <= 8; what++) {
            all.add(many(what));
        }
        int everyone = 0;
        for (int i : insiders()) {
            everyone += 1 << i;
        }
        all.add(worth(everyone));
        for (int rule = 0; rule <= 2; rule++) {
            all.add(blocks(rule));
            all.add(pair(rule));
        }
        for (int i = 0; i < bids.size(); i++) {
            all.addAll(List.of(won(i), demand(i), picks(i)));
            for (int rule = 0; rule <= 2; rule++) {
                all.addAll(List.of(price(i, rule), matched(i, rule), share(i, rule, 100)));
                if (in.get(i)) {
                    all.add(lie(i, rule));
                }
            }
            for (int j = 0; j < bids.size(); j++) {
                all.add(envies(i, j) ? 1 : 0);
            }
        }
        for (int g = 0; g < reserves.size(); g++) {
            all.add(tag(g));
        }
        for (int rule = 0; rule <= 4; rule++) {
            all.add(winner(rule));
        }
        for (int b = 0; b < ballots.size(); b++) {
            for (int rule = 0; rule <= 4; rule++) {
                all.add(tips(b, rule));
            }
        }
        for (int c = 0; c < 4; c++) {
            all.addAll(List.of(seats(c, 0, 7), seats(c, 1, 7)));
        }
        for (int k = 0; k < book.size(); k++) {
            all.add(appeal(k));
        }
        long d = 58148;
        for (int v : all) {
            d = d * 31 + v;
        }
        return d;
    }

    private static void argument(boolean isRight) {
        if (!isRight) {
            throw new IllegalArgumentException();
        }
    }

    private static void state(boolean isRight) {
        if (!isRight) {
            throw new IllegalStateException();
        }
    }

    private static void index(int number, int count) {
        if (number < 0 || number >= count) {
            throw new IndexOutOfBoundsException();
        }
    }
}
