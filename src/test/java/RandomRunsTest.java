import java.util.ArrayList;
import java.util.List;
import java.util.Random;
import java.util.concurrent.Callable;

/** Runs of calls, made by fixed seeds, in which PivotalMarket answers as PlainMarket does. */
public final class RandomRunsTest {
    private final PivotalMarket market = new PivotalMarket();
    private final PlainMarket plain = new PlainMarket();
    private final Random random;
    private final List<String> calls = new ArrayList<>();
    private int wrong = 0;
    private int asked = 0;

    private RandomRunsTest(long seed) {
        random = new Random(seed);
    }

    public static void main(String[] args) {
        int runs = args.length > 1 ? Integer.parseInt(args[1]) : 150;
        int asked = 0;
        for (int seed = 0; seed < runs; seed++) {
            RandomRunsTest run = new RandomRunsTest(seed);
            run.start();
            for (int i = 0; i < 100 + seed % 300 && run.wrong == 0; i++) {
                run.step();
            }
            run.compareDigests();
            asked += run.asked;
            if (run.wrong > 0) {
                System.out.println("seed " + seed + ": " + run.calls);
                System.exit(1);
            }
        }
        System.out.println(asked + " calls of " + runs + " runs answered as the plain market does");
    }

    private void same(String call, Callable<?> real, Callable<?> due) {
        asked++;
        calls.add(call);
        Object got = Check.answerOf(real);
        Object want = Check.answerOf(due);
        if (!got.equals(want)) {
            wrong++;
            System.out.println(call + " answered " + got + ", due is " + want);
        }
    }

    private int upTo(int most) {
        return random.nextInt(most + 1);
    }

    /** Mostly from least to most, now and then one beyond, or far away. */
    private int near(int least, int most) {
        if (random.nextInt(25) == 0) {
            int[] beyond = {least - 1, most + 1, least - 1, most + 1, Integer.MIN_VALUE, Integer.MAX_VALUE};
            return beyond[random.nextInt(beyond.length)];
        }
        return least + random.nextInt(Math.max(1, most - least + 1));
    }

    private int anyParty() {
        return near(0, market.many(1) - 1);
    }

    private int anyGood() {
        return near(0, market.many(0) - 1);
    }

    private int anyRule() {
        return near(0, 2);
    }

    private void start() {
        int goods = random.nextInt(5);
        int parties = random.nextInt(6);
        int nodes = random.nextInt(20);
        for (int i = 0; i < goods; i++) {
            good();
        }
        for (int i = 0; i < nodes && goods > 0; i++) {
            node();
        }
        for (int i = 0; i < parties; i++) {
            same("party()", market::party, plain::party);
            bid();
        }
        for (int i = 0; i < goods * parties && random.nextBoolean(); i++) {
            rank();
            rank();
        }
    }

    private void step() {
        int kind = random.nextInt(100);
        if (kind < 30) {
            change();
        } else if (kind < 55) {
            askAuction();
        } else if (kind < 75) {
            askSharing();
        } else if (kind < 97) {
            askVotes();
        } else {
            compareDigests();
        }
    }

    private void compareDigests() {
        same("digest()", market::digest, plain::digest);
    }

    private void good() {
        int reserve = random.nextInt(3) == 0 ? near(0, 50) : upTo(12);
        same("good(" + reserve + ")", () -> market.good(reserve), () -> plain.good(reserve));
    }

    private void node() {
        int nodes = market.many(2);
        int goods = market.many(0);
        int kind = nodes < 2 ? 0 : near(0, 4);
        int a = kind == 0 ? near(1, (1 << goods) - 1) : near(0, nodes - 1);
        int most = random.nextBoolean() ? 99 : random.nextBoolean() ? 12 : 3;
        int b = kind == 0 ? near(1, most) : kind == 4 ? near(0, 200) : near(0, nodes - 1);
        int c = kind == 3 ? near(0, most) : random.nextInt(40) == 0 ? 1 : 0;
        same("node(" + kind + "," + a + "," + b + "," + c + ")",
                () -> market.node(kind, a, b, c), () -> plain.node(kind, a, b, c));
    }

    private void bid() {
        int party = anyParty();
        int node = near(-1, market.many(2) - 1);
        same("bid(" + party + "," + node + ")", () -> market.bid(party, node), () -> plain.bid(party, node));
    }

    private void rank() {
        int good = anyGood();
        int party = anyParty();
        int rank = near(0, random.nextBoolean() ? 9 : 2);
        same("rank(" + good + "," + party + "," + rank + ")",
                () -> market.rank(good, party, rank), () -> plain.rank(good, party, rank));
    }

    private void change() {
        switch (random.nextInt(11)) {
            case 0 -> good();
            case 1 -> {
                if (random.nextInt(4) == 0) {
                    same("party()", market::party, plain::party);
                }
            }
            case 2, 3 -> node();
            case 4, 5 -> bid();
            case 6, 7 -> {
                int party = anyParty();
                boolean isIn = random.nextInt(3) > 0;
                same("let(" + party + "," + isIn + ")", () -> market.let(party, isIn), () -> plain.let(party, isIn));
            }
            case 8, 9 -> {
                rank();
                rank();
            }
            default -> {
                int rule = anyRule();
                same("seal(" + rule + ")", () -> market.seal(rule), () -> plain.seal(rule));
            }
        }
    }

    private void askAuction() {
        int party = anyParty();
        int rule = anyRule();
        int set = near(0, (1 << market.many(0)) - 1);
        int among = near(0, (1 << market.many(1)) - 1);
        int quarters = near(0, 8);
        switch (random.nextInt(9)) {
            case 0 -> same("value(" + party + "," + set + ")",
                    () -> market.value(party, set), () -> plain.value(party, set));
            case 1 -> same("worth(" + among + ")", () -> market.worth(among), () -> plain.worth(among));
            case 2 -> same("won(" + party + ")", () -> market.won(party), () -> plain.won(party));
            case 3 -> same("price(" + party + "," + rule + ")",
                    () -> market.price(party, rule), () -> plain.price(party, rule));
            case 4 -> same("blocks(" + rule + ")", () -> market.blocks(rule), () -> plain.blocks(rule));
            case 5 -> same("gain(" + party + "," + rule + "," + quarters + ")",
                    () -> market.gain(party, rule, quarters), () -> plain.gain(party, rule, quarters));
            case 6 -> same("lie(" + party + "," + rule + ")",
                    () -> market.lie(party, rule), () -> plain.lie(party, rule));
            case 7 -> same("meanPrice(" + rule + ")", () -> market.meanPrice(rule), () -> plain.meanPrice(rule));
            default -> {
                int k = near(0, market.many(8) - 1);
                same("appeal(" + k + ")", () -> market.appeal(k), () -> plain.appeal(k));
            }
        }
    }

    private void askSharing() {
        int party = anyParty();
        int other = anyParty();
        int good = anyGood();
        int rule = anyRule();
        switch (random.nextInt(9)) {
            case 0 -> {
                if (random.nextInt(3) == 0) {
                    int step = near(1, 20);
                    same("open(" + step + ")", () -> market.open(step), () -> plain.open(step));
                }
            }
            case 1 -> {
                int rounds = near(1, random.nextBoolean() ? 40 : 4);
                same("rise(" + rounds + ")", () -> market.rise(rounds), () -> plain.rise(rounds));
            }
            case 2 -> same("tag(" + good + ")", () -> market.tag(good), () -> plain.tag(good));
            case 3 -> same("demand(" + party + ")", () -> market.demand(party), () -> plain.demand(party));
            case 4 -> same("matched(" + party + "," + rule + ")",
                    () -> market.matched(party, rule), () -> plain.matched(party, rule));
            case 5 -> same("pair(" + rule + ")", () -> market.pair(rule), () -> plain.pair(rule));
            case 6 -> {
                int estate = near(0, random.nextBoolean() ? 300 : 60);
                same("share(" + party + "," + rule + "," + estate + ")",
                        () -> market.share(party, rule, estate), () -> plain.share(party, rule, estate));
            }
            case 7 -> same("picks(" + party + ")", () -> market.picks(party), () -> plain.picks(party));
            default -> same("envies(" + party + "," + other + ")",
                    () -> market.envies(party, other), () -> plain.envies(party, other));
        }
    }

    private void askVotes() {
        int rule = near(0, 4);
        switch (random.nextInt(8)) {
            case 0, 1, 2 -> {
                int first = near(0, 3);
                int second = near(-1, 3);
                int third = near(-1, 3);
                same("ballot(" + first + "," + second + "," + third + ")",
                        () -> market.ballot(first, second, third), () -> plain.ballot(first, second, third));
            }
            case 3 -> {
                if (random.nextInt(3) == 0) {
                    same("take()", market::take, plain::take);
                }
            }
            case 4 -> same("winner(" + rule + ")", () -> market.winner(rule), () -> plain.winner(rule));
            case 5 -> {
                int number = near(0, market.many(7) - 1);
                same("tips(" + number + "," + rule + ")",
                        () -> market.tips(number, rule), () -> plain.tips(number, rule));
            }
            case 6 -> {
                int candidate = near(0, 3);
                int way = near(0, 1);
                int seats = near(1, 30);
                same("seats(" + candidate + "," + way + "," + seats + ")",
                        () -> market.seats(candidate, way, seats), () -> plain.seats(candidate, way, seats));
            }
            default -> {
                int what = near(0, 8);
                same("many(" + what + ")", () -> market.many(what), () -> plain.many(what));
            }
        }
    }
}
