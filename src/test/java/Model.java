import java.math.BigInteger;
import java.util.ArrayList;
import java.util.Arrays;
import java.util.HashSet;
import java.util.List;
import java.util.Set;
import java.util.function.ToLongFunction;

/** The document told a second time, in the most roundabout and plainest way, to compare answers with. */
final class Model {
    static final int NONE = -1;

    int status;
    BigInteger top = BigInteger.ZERO;
    BigInteger bottom = BigInteger.ONE;

    private final List<List<Long>> trays = new ArrayList<>(Arrays.asList(null, null, null, null));
    private final int[] sorts = new int[4];

    int lands;
    private final List<int[]> golds = new ArrayList<>();
    private final int[][][] roads = new int[7][7][];

    private final List<Integer> tape = new ArrayList<>();
    private final List<Parsed> treaties = new ArrayList<>();
    private int faultKind = NONE;
    private int faultPlace = NONE;
    private final List<int[]> reserves = new ArrayList<>();

    private final int[][] rates = new int[7][7];

    private final List<Flow> flows = new ArrayList<>();
    private List<Integer> drawn = new ArrayList<>();
    private List<Integer> telling = new ArrayList<>();

    private long[][] owed;

    private int grace = 5;
    private int limit = 30;
    private int loss = 40;
    private final List<Bag> bags = new ArrayList<>();
    private final List<int[]> handed = new ArrayList<>();

    private final List<List<int[]>> books = List.of(new ArrayList<>(), new ArrayList<>());
    private final int[] featureWeights = {1, 1, 1, 1, 1, 1};
    private final List<int[]> cases = new ArrayList<>();

    static final class Refused extends RuntimeException {
        final int why;

        Refused(int why) {
            super(null, null, false, false);
            this.why = why;
        }
    }

    private static void unless(boolean fine, int why) {
        if (!fine) {
            throw new Refused(why);
        }
    }

    interface Call {
        long answer();
    }

    /** Runs a call that has a STATUS; flags count 1 and 0. */
    long asked(boolean isFlag, Call call) {
        try {
            long answer = call.answer();
            status = 0;
            return answer;
        } catch (Refused refused) {
            status = refused.why;
            return isFlag ? 0 : NONE;
        }
    }

    private void land(int... all) {
        for (int land : all) {
            unless(land >= 0 && land < lands, 1);
        }
        unless(new HashSet<>(Arrays.stream(all).boxed().toList()).size() == all.length, 1);
    }

    private static void range(long v, long least, long most) {
        unless(v >= least && v <= most, 1);
    }

    private static void day(int day) {
        range(day, 0, 9999);
    }

    private static long cut(int sort, long v) {
        int bits = 8 << sort;
        return v << (64 - bits) >> (64 - bits);
    }

    // ---- TRAYS

    long tray(int tray, int sort, int many) {
        range(tray, 0, 3);
        range(sort, 0, 3);
        range(many, 0, 60);
        List<Long> row = new ArrayList<>();
        for (int k = 0; k < many; k++) {
            row.add(0L);
        }
        trays.set(tray, row);
        sorts[tray] = sort;
        return 1;
    }

    private List<Long> row(int tray, int place, int many) {
        range(tray, 0, 3);
        unless(trays.get(tray) != null, 2);
        unless(place >= 0 && (long) place + many <= trays.get(tray).size(), 3);
        return trays.get(tray);
    }

    long write(int tray, int place, long v) {
        row(tray, place, 1).set(place, cut(sorts[tray], v));
        return 1;
    }

    long fill(int tray, int place, int many, long v, long by) {
        range(many, 1, 60);
        List<Long> row = row(tray, place, many);
        long next = v;
        for (int k = 0; k < many; k++) {
            row.set(place + k, cut(sorts[tray], next));
            next += by;
        }
        return 1;
    }

    long read(int tray, int place) {
        return row(tray, place, 1).get(place);
    }

    long pour(int from, int place, int to, int at, int many) {
        range(from, 0, 3);
        range(to, 0, 3);
        unless(place >= 0 && at >= 0 && many >= 0, 1);
        unless(trays.get(from) != null && trays.get(to) != null, 2);
        unless(sorts[from] == sorts[to], 8);
        unless((long) place + many <= trays.get(from).size() && (long) at + many <= trays.get(to).size(), 3);
        List<Long> copy = new ArrayList<>(trays.get(from).subList(place, place + many));
        for (int k = 0; k < many; k++) {
            trays.get(to).set(at + k, copy.get(k));
        }
        return 1;
    }

    // ---- LANDS

    long land() {
        unless(lands < 7, 4);
        return lands++;
    }

    long gold(int land, int day, int coins) {
        land(land);
        day(day);
        range(coins, 1, 1_000_000);
        unless(golds.size() < 40, 4);
        golds.add(new int[] {land, day, coins});
        return 1;
    }

    long coins(int land, int day, long gold) {
        land(land);
        day(day);
        range(gold, 0, 1_000_000_000_000L);
        int[] best = {land, -1, 1000};
        for (int d = 0; d <= day; d++) {
            for (int[] told : golds) {
                if (told[0] == land && told[1] == d) {
                    best = told;
                }
            }
        }
        return BigInteger.valueOf(gold).multiply(BigInteger.valueOf(best[2])).divide(BigInteger.valueOf(1000)).longValueExact();
    }

    long road(int a, int b, int days, int freight) {
        land(a, b);
        if (days == NONE) {
            unless(roads[a][b] != null, 6);
        } else {
            range(days, 1, 60);
            range(freight, 0, 10_000);
        }
        roads[a][b] = days == NONE ? null : new int[] {days, freight};
        roads[b][a] = roads[a][b];
        return 1;
    }

    // ---- TREATIES

    int feed(int... five) {
        if (tape.size() + 20 > 600) {
            return NONE;
        }
        for (int v : five) {
            for (int k = 3; k >= 0; k--) {
                tape.add(v >>> 8 * k & 255);
            }
        }
        return tape.size();
    }

    long treaty(int n, int year) {
        unless(n >= 0 && n <= tape.size(), 1);
        range(year, 0, 27);
        unless(treaties.size() < 4, 4);
        StringBuilder text = new StringBuilder();
        for (int k = 0; k < n; k++) {
            text.append((char) (int) tape.get(k));
        }
        tape.clear();
        try {
            Parsed parsed = new Parser(text.toString()).treaty();
            parsed.year = year;
            treaties.add(parsed);
            faultKind = 0;
            faultPlace = NONE;
        } catch (Parser.Fault fault) {
            faultKind = fault.kind;
            faultPlace = fault.place;
            throw new Refused(9);
        }
        return treaties.size() - 1;
    }

    int fault(int what) {
        return what == 0 ? faultKind : what == 1 ? faultPlace : NONE;
    }

    long clauses(int treaty) {
        range(treaty, 0, treaties.size() - 1);
        return treaties.get(treaty).clauses.size();
    }

    long inForce(int year) {
        range(year, 0, 27);
        for (int began = year; began >= 0; began--) {
            for (int k = treaties.size() - 1; k >= 0; k--) {
                if (treaties.get(k).year == began) {
                    return k;
                }
            }
        }
        throw new Refused(6);
    }

    long isOut(int land, int treaty, int clause, int day) {
        land(land);
        range(treaty, 0, treaties.size() - 1);
        range(clause, 0, treaties.get(treaty).clauses.size() - 1);
        day(day);
        for (int d = day; d >= 0; d--) {
            for (int k = reserves.size() - 1; k >= 0; k--) {
                int[] r = reserves.get(k);
                if (r[0] == land && r[1] == treaty && r[2] == clause && r[3] == d) {
                    return r[4];
                }
            }
        }
        return 0;
    }

    long reserve(int land, int treaty, int clause, int day, boolean out) {
        long now = isOut(land, treaty, clause, day);
        unless(reserves.size() < 40, 4);
        unless(now != (out ? 1 : 0), 7);
        reserves.add(new int[] {land, treaty, clause, day, out ? 1 : 0});
        return 1;
    }

    static final class Letters {
        int from;
        int to;
        int size;
        int weight;
        int pieces;
        int day;

        Letters(int from, int to, int size, int weight, int pieces, int day) {
            this.from = from;
            this.to = to;
            this.size = size;
            this.weight = weight;
            this.pieces = pieces;
            this.day = day;
        }

        Letters postedIn(int land) {
            return new Letters(land, to, size, weight, pieces, day);
        }
    }

    private Letters mail(int from, int to, int size, int weight, int pieces, int day) {
        land(from, to);
        range(size, 0, 3);
        range(weight, 1, 1_000_000_000);
        range(pieces, 1, 1_000_000);
        day(day);
        return new Letters(from, to, size, weight, pieces, day);
    }

    private Clause clauseOf(String sort, Letters m, int thirds, int via) {
        int number;
        try {
            number = (int) inForce(m.day / 365);
        } catch (Refused none) {
            return null;
        }
        List<Clause> clauses = treaties.get(number).clauses;
        for (int k = 0; k < clauses.size(); k++) {
            Clause c = clauses.get(k);
            int other = sort.equals("due") ? m.to : via;
            if (c.sort.equals(sort) && (c.from == null || c.from.contains(m.from)) && (c.to == null || c.to.contains(m.to))
                    && (c.test == null || c.test.applyAsLong(values(m, thirds, via)) == 1)
                    && isOut(m.from, number, k, m.day) == 0 && isOut(other, number, k, m.day) == 0) {
                return c;
            }
        }
        return null;
    }

    private static long[] values(Letters m, int thirds, int via) {
        return new long[] {m.weight, m.pieces, m.size, m.weight / m.pieces, m.day / 365, thirds, via};
    }

    private long owedBy(String sort, Letters m, int thirds, int via) {
        Clause c = clauseOf(sort, m, thirds, via);
        if (c == null) {
            return 0;
        }
        long sum = c.sum.applyAsLong(values(m, thirds, via));
        return sum < 0 ? 0 : sum > 1_000_000_000_000L ? 1_000_000_000_000L : sum;
    }

    long due(int from, int to, int size, int weight, int pieces, int day, int thirds) {
        Letters m = mail(from, to, size, weight, pieces, day);
        range(thirds, 0, 3);
        return owedBy("due", m, thirds, -1);
    }

    long dueBy(int from, int to, int size, int weight, int pieces, int day, int thirds) {
        Letters m = mail(from, to, size, weight, pieces, day);
        range(thirds, 0, 3);
        Clause c = clauseOf("due", m, thirds, -1);
        unless(c != null, 6);
        return c.number;
    }

    long third(int from, int to, int via, int size, int weight, int pieces, int day, int thirds) {
        Letters m = mail(from, to, size, weight, pieces, day);
        land(from, to, via);
        range(thirds, 1, 3);
        return owedBy("third", m, thirds, via);
    }

    // ---- WAYS

    static final class Best {
        List<Integer> way;
        long price;
        int days;
    }

    private Best best(Letters m) {
        List<List<Integer>> all = new ArrayList<>();
        List<List<Integer>> grow = new ArrayList<>();
        grow.add(List.of(m.from));
        for (int length = 2; length <= 5; length++) {
            List<List<Integer>> longer = new ArrayList<>();
            for (List<Integer> way : grow) {
                for (int next = lands - 1; next >= 0; next--) {
                    if (!way.contains(next) && roads[way.get(way.size() - 1)][next] != null) {
                        List<Integer> more = new ArrayList<>(way);
                        more.add(next);
                        (next == m.to ? all : longer).add(more);
                    }
                }
            }
            grow = longer;
        }
        List<Best> told = new ArrayList<>();
        for (List<Integer> way : all) {
            Best b = new Best();
            b.way = way;
            int thirds = way.size() - 2;
            b.price = owedBy("due", m, thirds, -1);
            for (int k = 1; k < way.size() - 1; k++) {
                b.price += owedBy("third", m, thirds, way.get(k));
            }
            for (int k = 1; k < way.size(); k++) {
                int[] road = roads[way.get(k - 1)][way.get(k)];
                b.days += road[0];
                b.price += (long) m.weight * road[1] / 1000;
            }
            told.add(b);
        }
        told.sort((x, y) -> {
            if (x.price != y.price) {
                return Long.compare(x.price, y.price);
            }
            if (x.days != y.days) {
                return Integer.compare(x.days, y.days);
            }
            for (int k = 0; ; k++) {
                if (!x.way.get(k).equals(y.way.get(k))) {
                    return Integer.compare(x.way.get(k), y.way.get(k));
                }
                if (k == x.way.size() - 1) {
                    return 0;
                }
            }
        });
        return told.isEmpty() ? null : told.get(0);
    }

    private Best bestOf(Letters m) {
        Best best = best(m);
        unless(best != null, 6);
        return best;
    }

    long price(int from, int to, int size, int weight, int pieces, int day) {
        return bestOf(mail(from, to, size, weight, pieces, day)).price;
    }

    long way(int from, int to, int size, int weight, int pieces, int day, int what) {
        Letters m = mail(from, to, size, weight, pieces, day);
        range(what, 0, 6);
        Best best = bestOf(m);
        if (what == 0) {
            return best.way.size();
        }
        if (what == 1) {
            return best.days;
        }
        unless(what - 2 < best.way.size(), 6);
        return best.way.get(what - 2);
    }

    /** The least FREIGHT, or NONE. */
    private long freight(int a, int b) {
        long[] least = new long[7];
        Arrays.fill(least, Long.MAX_VALUE);
        least[a] = 0;
        for (int round = 0; round < 7; round++) {
            for (int x = 0; x < 7; x++) {
                for (int y = 0; y < 7; y++) {
                    if (roads[x][y] != null && least[x] != Long.MAX_VALUE) {
                        least[y] = Math.min(least[y], least[x] + roads[x][y][1]);
                    }
                }
            }
        }
        return least[b] == Long.MAX_VALUE ? NONE : least[b];
    }

    long carried(int a, int b) {
        land(a);
        land(b);
        unless(freight(a, b) != NONE, 6);
        return freight(a, b);
    }

    /** The least PRICE and the LAND, or null. */
    private long[] remail(Letters m) {
        long[] least = null;
        for (int x = 0; x < lands; x++) {
            if (x == m.from || x == m.to || freight(m.from, x) == NONE) {
                continue;
            }
            Best best = best(m.postedIn(x));
            if (best != null) {
                long price = freight(m.from, x) * m.weight / 1000 + best.price;
                if (least == null || price < least[0]) {
                    least = new long[] {price, x};
                }
            }
        }
        return least;
    }

    long remailed(int from, int to, int size, int weight, int pieces, int day) {
        long[] least = remail(mail(from, to, size, weight, pieces, day));
        unless(least != null, 6);
        return least[0];
    }

    long remailer(int from, int to, int size, int weight, int pieces, int day) {
        long[] least = remail(mail(from, to, size, weight, pieces, day));
        unless(least != null, 6);
        return least[1];
    }

    long gain(int from, int to, int size, int weight, int pieces, int day) {
        Letters m = mail(from, to, size, weight, pieces, day);
        long own = bestOf(m).price;
        long[] least = remail(m);
        unless(least != null, 6);
        return own - least[0];
    }

    long rate(int from, int to, int price) {
        land(from, to);
        range(price, 0, 1_000_000_000);
        rates[from][to] = price;
        return 1;
    }

    /** Brings the RATES down by single wrongs until there is none. */
    private long[][] evenRates() {
        long[][] e = new long[7][7];
        for (int f = 0; f < 7; f++) {
            for (int t = 0; t < 7; t++) {
                e[f][t] = rates[f][t];
            }
        }
        boolean changed = true;
        while (changed) {
            changed = false;
            for (int f = 0; f < lands; f++) {
                for (int t = 0; t < lands; t++) {
                    for (int x = 0; x < lands; x++) {
                        if (f == t || x == f || x == t || freight(f, x) == NONE) {
                            continue;
                        }
                        if (freight(f, x) + e[x][t] < e[f][t]) {
                            e[f][t] = freight(f, x) + e[x][t];
                            changed = true;
                        }
                    }
                }
            }
        }
        return e;
    }

    long even(int from, int to) {
        land(from, to);
        return evenRates()[from][to];
    }

    long uneven() {
        long[][] e = evenRates();
        int n = 0;
        for (int f = 0; f < lands; f++) {
            for (int t = 0; t < lands; t++) {
                n += f != t && rates[f][t] > e[f][t] ? 1 : 0;
            }
        }
        return n;
    }

    // ---- FLOWS

    static final class Flow {
        int from;
        int to;
        int size;
        int pieces;
        List<Long> weeks;

        long all() {
            return weeks.stream().mapToLong(v -> v).sum();
        }

        long told(List<Integer> by) {
            return by.stream().mapToLong(w -> weeks.get(w)).sum() * 52 / by.size();
        }
    }

    long flow(int from, int to, int size, int pieces, int tray) {
        land(from, to);
        range(size, 0, 3);
        range(pieces, 1, 100);
        List<Long> row = row(tray, 0, 52);
        for (int k = 0; k < 52; k++) {
            range(row.get(k), 0, 10_000);
        }
        unless(flows.size() < 8, 4);
        Flow flow = new Flow();
        flow.from = from;
        flow.to = to;
        flow.size = size;
        flow.pieces = pieces;
        flow.weeks = new ArrayList<>(row.subList(0, 52));
        flows.add(flow);
        return flows.size() - 1;
    }

    long isTrue(int flow) {
        range(flow, 0, flows.size() - 1);
        return flows.get(flow).all();
    }

    long draw(int weeks, int seed) {
        range(weeks, 1, 52);
        range(seed, 0, Integer.MAX_VALUE);
        BigInteger s = BigInteger.valueOf(seed);
        List<Integer> some = new ArrayList<>();
        for (int w = 0; w < 52; w++) {
            s = s.multiply(BigInteger.valueOf(1103515245)).add(BigInteger.valueOf(12345)).mod(BigInteger.ONE.shiftLeft(31));
            int lot = s.shiftRight(16).intValueExact();
            if (lot % (52 - w) < weeks - some.size()) {
                some.add(w);
            }
        }
        drawn = some;
        return some.size();
    }

    long drawn(int k) {
        unless(k >= 0, 1);
        unless(k < drawn.size(), 6);
        return drawn.get(k);
    }

    long told(int flow) {
        range(flow, 0, flows.size() - 1);
        unless(!drawn.isEmpty(), 6);
        return flows.get(flow).told(drawn);
    }

    long telling(int weeks) {
        range(weeks, 1, 3);
        long least = Long.MAX_VALUE;
        List<Integer> found = null;
        for (int a = 0; a < 52; a++) {
            for (int b = weeks > 1 ? a + 1 : 51; b < 52; b++) {
                for (int c = weeks > 2 ? b + 1 : 51; c < 52; c++) {
                    List<Integer> some = weeks == 1 ? List.of(a) : weeks == 2 ? List.of(a, b) : List.of(a, b, c);
                    long far = 0;
                    for (Flow flow : flows) {
                        far += Math.abs(flow.told(some) - flow.all());
                    }
                    if (far < least) {
                        least = far;
                        found = some;
                    }
                }
            }
        }
        telling = found;
        return least;
    }

    long tells(int k) {
        unless(k >= 0, 1);
        unless(k < telling.size(), 6);
        return telling.get(k);
    }

    // ---- ACCOUNTS

    long account(int year, boolean told) {
        range(year, 0, 27);
        unless(!told || !drawn.isEmpty(), 6);
        long[][] fresh = new long[7][7];
        long all = 0;
        for (Flow f : flows) {
            long kilograms = told ? f.told(drawn) : f.all();
            if (kilograms == 0) {
                continue;
            }
            Letters m = new Letters(f.from, f.to, f.size, (int) kilograms * 1000, (int) kilograms * f.pieces, 365 * year);
            Best best = bestOf(m);
            int thirds = best.way.size() - 2;
            long due = owedBy("due", m, thirds, -1);
            fresh[f.from][f.to] += due;
            all += due;
            for (int via : best.way.subList(1, best.way.size() - 1)) {
                long third = owedBy("third", m, thirds, via);
                fresh[f.from][via] += third;
                all += third;
            }
        }
        owed = fresh;
        return all;
    }

    long owes(int a, int b) {
        land(a, b);
        unless(owed != null, 6);
        return owed[a][b] > owed[b][a] ? owed[a][b] - owed[b][a] : 0;
    }

    private long balances(int land) {
        long sum = 0;
        for (int x = 0; x < 7; x++) {
            sum += owed[x][land];
            sum -= owed[land][x];
        }
        return sum;
    }

    long balance(int land) {
        land(land);
        unless(owed != null, 6);
        return balances(land);
    }

    long pays(int a, int b) {
        land(a, b);
        unless(owed != null, 6);
        long[][] pays = new long[7][7];
        long[] left = new long[7];
        for (int x = 0; x < 7; x++) {
            left[x] = balances(x);
        }
        for (int x = 0; x < 7; x++) {
            for (int y = 0; y < 7; y++) {
                if (left[x] < 0 && left[y] > 0) {
                    pays[x][y] = Math.min(-left[x], left[y]);
                    left[x] += pays[x][y];
                    left[y] -= pays[x][y];
                }
            }
        }
        return pays[a][b];
    }

    // ---- BAGS

    static final class Bag {
        int weight;
        List<Integer> way = new ArrayList<>();
        int begun;
    }

    int bags() {
        return bags.size();
    }

    /** Five numbers of LANDS, along ROADS and to new LANDS as far as it goes. */
    List<Integer> walk(java.util.Random random) {
        List<Integer> walk = new ArrayList<>(List.of(random.nextInt(lands)));
        while (walk.size() < 5) {
            int next = random.nextInt(lands);
            for (int k = 0; k < 10 && (walk.contains(next) || roads[walk.get(walk.size() - 1)][next] == null); k++) {
                next = random.nextInt(lands);
            }
            walk.add(next);
        }
        return walk;
    }

    long rules(int grace, int limit, int loss) {
        range(grace, 0, 60);
        range(limit, 1, 365);
        range(loss, 0, 100_000);
        this.grace = grace;
        this.limit = limit;
        this.loss = loss;
        return 1;
    }

    long bag(int weight, int tray, int many, int day) {
        range(weight, 1, 1_000_000);
        range(many, 2, 5);
        day(day);
        List<Long> row = row(tray, 0, many);
        Bag bag = new Bag();
        for (int k = 0; k < many; k++) {
            range(row.get(k), 0, lands - 1);
            bag.way.add((int) (long) row.get(k));
        }
        unless(new HashSet<>(bag.way).size() == many, 6);
        for (int k = 1; k < many; k++) {
            unless(roads[bag.way.get(k - 1)][bag.way.get(k)] != null, 6);
        }
        unless(bags.size() < 30, 4);
        bag.weight = weight;
        bag.begun = day;
        bags.add(bag);
        return bags.size() - 1;
    }

    long handed(int bag, int k, int day, int known) {
        range(bag, 0, bags.size() - 1);
        range(k, 0, bags.get(bag).way.size() - 1);
        day(day);
        day(known);
        unless(day <= known, 1);
        unless(handed.size() < 150, 4);
        unless(handed.stream().allMatch(h -> h[3] <= known), 5);
        handed.add(new int[] {bag, k, day, known});
        return 1;
    }

    /** Its place, and since when. */
    private int[] at(int bag, int known) {
        for (int place = bags.get(bag).way.size() - 1; place >= 0; place--) {
            for (int k = handed.size() - 1; k >= 0; k--) {
                int[] h = handed.get(k);
                if (h[0] == bag && h[1] == place && h[3] <= known) {
                    return new int[] {place, h[2]};
                }
            }
        }
        return new int[] {0, bags.get(bag).begun};
    }

    long where(int bag, int known) {
        range(bag, 0, bags.size() - 1);
        day(known);
        return bags.get(bag).way.get(at(bag, known)[0]);
    }

    long late(int bag, int day, int known) {
        range(bag, 0, bags.size() - 1);
        day(day);
        day(known);
        Bag b = bags.get(bag);
        unless(day >= b.begun, 1);
        int[] at = at(bag, known);
        if (at[0] == b.way.size() - 1) {
            return 0;
        }
        int[] road = roads[b.way.get(at[0])][b.way.get(at[0] + 1)];
        int takes = road == null ? 60 : road[0];
        int gone = day - at[1];
        return gone > takes + grace + limit ? 2 : gone > takes + grace ? 1 : 0;
    }

    long loses(int land, int day) {
        land(land);
        day(day);
        long all = 0;
        for (int k = 0; k < bags.size(); k++) {
            if (bags.get(k).begun <= day && where(k, day) == land && late(k, day, day) == 2) {
                all += (long) bags.get(k).weight * loss / 1000;
            }
        }
        return all;
    }

    // ---- BOOKS, INTEREST, CASES

    long line(int side, int number, int day, int grams) {
        range(side, 0, 1);
        range(number, 0, 9999);
        day(day);
        range(grams, 0, 1_000_000);
        unless(books.get(side).size() < 12, 4);
        books.get(side).add(new int[] {number, day, grams});
        return books.get(side).size() - 1;
    }

    long close() {
        books.get(0).clear();
        books.get(1).clear();
        return 1;
    }

    private int cost(int a, int b) {
        int[] x = books.get(0).get(a);
        int[] y = books.get(1).get(b);
        return (x[0] == y[0] ? 0 : 20) + Math.min(10, Math.abs(x[1] - y[1])) + Math.min(20, Math.abs(x[2] - y[2]) / 100);
    }

    private int[][] rest;

    /** The least for side 0's LINES from one on, if some of side 1 are taken. */
    private int rest(int line, int taken) {
        int side1 = books.get(1).size();
        if (line == books.get(0).size()) {
            return 25 * (side1 - Integer.bitCount(taken));
        }
        if (rest[line][taken] < 0) {
            int least = 25 + rest(line + 1, taken);
            for (int k = 0; k < side1; k++) {
                if ((taken >> k & 1) == 0) {
                    least = Math.min(least, cost(line, k) + rest(line + 1, taken | 1 << k));
                }
            }
            rest[line][taken] = least;
        }
        return rest[line][taken];
    }

    private int[] mates() {
        int side0 = books.get(0).size();
        int side1 = books.get(1).size();
        rest = new int[side0][1 << side1];
        for (int[] row : rest) {
            Arrays.fill(row, -1);
        }
        int[] mates = new int[side0];
        int taken = 0;
        for (int line = 0; line < side0; line++) {
            mates[line] = NONE;
            for (int k = 0; k < side1 && mates[line] == NONE; k++) {
                if ((taken >> k & 1) == 0 && cost(line, k) + rest(line + 1, taken | 1 << k) == rest(line, taken)) {
                    mates[line] = k;
                    taken |= 1 << k;
                }
            }
        }
        return mates;
    }

    long join() {
        mates();
        return rest(0, 0);
    }

    long mate(int line) {
        range(line, 0, books.get(0).size() - 1);
        int mate = mates()[line];
        unless(mate != NONE, 6);
        return mate;
    }

    long leans(int what) {
        range(what, 0, 1);
        int[] mates = mates();
        long pairs = 0;
        long none = 0;
        Set<Integer> seen = new HashSet<>();
        for (int k = 0; k < mates.length; k++) {
            if (mates[k] == NONE) {
                none += books.get(0).get(k)[2];
            } else {
                pairs += books.get(0).get(k)[2] - books.get(1).get(mates[k])[2];
                seen.add(mates[k]);
            }
        }
        for (int k = 0; k < books.get(1).size(); k++) {
            none -= seen.contains(k) ? 0 : books.get(1).get(k)[2];
        }
        return what == 0 ? pairs : none;
    }

    long interest(int sum, int rate, int late) {
        range(sum, 0, 1_000_000_000);
        range(rate, 0, 1000);
        range(late, 0, 10_000);
        BigInteger above = BigInteger.valueOf(sum).multiply(BigInteger.valueOf(rate)).multiply(BigInteger.valueOf(late));
        BigInteger below = BigInteger.valueOf(365_000);
        BigInteger common = above.gcd(below);
        top = above.divide(common);
        bottom = below.divide(common);
        return above.signum();
    }

    long weigh(int feature, int weight) {
        range(feature, 0, 5);
        range(weight, 0, 9);
        featureWeights[feature] = weight;
        return 1;
    }

    long rule(int features, int ruling) {
        range(features, 0, 999_999);
        range(ruling, 0, 9);
        unless(cases.size() < 20, 4);
        cases.add(new int[] {features, ruling});
        return cases.size() - 1;
    }

    long judge(int features) {
        range(features, 0, 999_999);
        unless(!cases.isEmpty(), 6);
        String asked = String.format("%06d", features);
        long least = Long.MAX_VALUE;
        int ruling = NONE;
        for (int k = cases.size() - 1; k >= 0; k--) {
            String told = String.format("%06d", cases.get(k)[0]);
            long far = 0;
            for (int f = 0; f < 6; f++) {
                far += (long) featureWeights[f] * Math.abs(told.charAt(5 - f) - asked.charAt(5 - f));
            }
            if (far < least) {
                least = far;
                ruling = cases.get(k)[1];
            }
        }
        return ruling;
    }

    // ---- the texts

    static final class Clause {
        int number;
        String sort;
        Set<Integer> from;
        Set<Integer> to;
        ToLongFunction<long[]> test;
        ToLongFunction<long[]> sum;
    }

    static final class Parsed {
        int year;
        List<Clause> clauses = new ArrayList<>();
    }

    /** By descent through the grammar, a TOKEN at a time. */
    static final class Parser {
        static final List<String> VARIABLES = List.of("weight", "pieces", "size", "heap", "year", "thirds", "via");
        static final Set<String> WORDS = Set.of("due", "third", "from", "to", "when", "gives", "or", "and", "not", "least", "most");

        static final class Fault extends Exception {
            final int kind;
            final int place;

            Fault(int kind, int place) {
                this.kind = kind;
                this.place = place;
            }
        }

        private final String text;
        private int at;
        private String token;
        private int place;
        private int depth;

        Parser(String text) {
            this.text = text;
        }

        private void next() {
            while (at < text.length() && (text.charAt(at) == 10 || text.charAt(at) == 32)) {
                at++;
            }
            place = at;
            String rest = text.substring(at);
            token = "";
            for (String pattern : List.of("[a-z]+", "[0-9]+", "[-:;,<>=+*/()]")) {
                java.util.regex.Matcher m = java.util.regex.Pattern.compile(pattern).matcher(rest);
                if (m.lookingAt()) {
                    token = m.group();
                }
            }
            if (token.isEmpty() && !rest.isEmpty() || token.matches("[0-9]{8,}")) {
                token = "?";
            }
            at += token.length();
        }

        private Fault fault(int kind) {
            return new Fault(token.equals("?") ? 1 : kind, place);
        }

        private boolean is(String... any) {
            return Arrays.asList(any).contains(token);
        }

        private void need(String word) throws Fault {
            if (!is(word)) {
                throw fault(2);
            }
            next();
        }

        Parsed treaty() throws Fault {
            Parsed parsed = new Parsed();
            Set<String> names = new HashSet<>();
            next();
            while (!token.isEmpty()) {
                if (!token.matches("[a-z]{1,8}") || WORDS.contains(token) || VARIABLES.contains(token)) {
                    throw fault(2);
                }
                if (names.size() == 12) {
                    throw fault(3);
                }
                if (!names.add(token)) {
                    throw fault(4);
                }
                next();
                Clause clause = clause();
                clause.number = parsed.clauses.size();
                parsed.clauses.add(clause);
            }
            return parsed;
        }

        private Clause clause() throws Fault {
            Clause clause = new Clause();
            need(":");
            clause.sort = token;
            if (!is("due", "third")) {
                throw fault(2);
            }
            next();
            if (is("from")) {
                clause.from = list();
            }
            if (is("to")) {
                clause.to = list();
            }
            if (is("when")) {
                next();
                clause.test = test();
            }
            need("gives");
            clause.sum = sum();
            need(";");
            return clause;
        }

        private Set<Integer> list() throws Fault {
            Set<Integer> list = new HashSet<>();
            do {
                next();
                if (!token.matches("[0-9]+")) {
                    throw fault(2);
                }
                if (Integer.parseInt(token) > 6 || !list.add(Integer.parseInt(token))) {
                    throw fault(5);
                }
                next();
            } while (is(","));
            return list;
        }

        private ToLongFunction<long[]> test() throws Fault {
            ToLongFunction<long[]> left = part();
            while (is("or")) {
                next();
                ToLongFunction<long[]> a = left;
                ToLongFunction<long[]> b = part();
                left = v -> a.applyAsLong(v) == 1 || b.applyAsLong(v) == 1 ? 1 : 0;
            }
            return left;
        }

        private ToLongFunction<long[]> part() throws Fault {
            ToLongFunction<long[]> left = one();
            while (is("and")) {
                next();
                ToLongFunction<long[]> a = left;
                ToLongFunction<long[]> b = one();
                left = v -> a.applyAsLong(v) == 1 && b.applyAsLong(v) == 1 ? 1 : 0;
            }
            return left;
        }

        private ToLongFunction<long[]> one() throws Fault {
            boolean not = is("not");
            if (not) {
                next();
            }
            ToLongFunction<long[]> a = sum();
            String how = token;
            if (!is("<", ">", "=")) {
                throw fault(2);
            }
            next();
            ToLongFunction<long[]> b = sum();
            return v -> {
                long x = a.applyAsLong(v);
                long y = b.applyAsLong(v);
                boolean holds = how.equals("<") ? x < y : how.equals(">") ? x > y : x == y;
                return holds != not ? 1 : 0;
            };
        }

        private ToLongFunction<long[]> sum() throws Fault {
            ToLongFunction<long[]> left = item();
            while (is("+", "-")) {
                boolean plus = is("+");
                next();
                ToLongFunction<long[]> a = left;
                ToLongFunction<long[]> b = item();
                left = v -> plus ? a.applyAsLong(v) + b.applyAsLong(v) : a.applyAsLong(v) - b.applyAsLong(v);
            }
            return left;
        }

        private ToLongFunction<long[]> item() throws Fault {
            ToLongFunction<long[]> left = atom();
            while (is("*", "/")) {
                boolean times = is("*");
                next();
                ToLongFunction<long[]> a = left;
                ToLongFunction<long[]> b = atom();
                left = v -> {
                    long x = a.applyAsLong(v);
                    long y = b.applyAsLong(v);
                    return times ? x * y : y == 0 ? 0 : x / y;
                };
            }
            return left;
        }

        private ToLongFunction<long[]> atom() throws Fault {
            if (token.matches("[0-9]+")) {
                long number = Long.parseLong(token);
                next();
                return v -> number;
            }
            if (VARIABLES.contains(token)) {
                int which = VARIABLES.indexOf(token);
                next();
                return v -> v[which];
            }
            if (is("least", "most")) {
                boolean least = is("least");
                next();
                open();
                ToLongFunction<long[]> a = sum();
                need(",");
                ToLongFunction<long[]> b = sum();
                shut();
                return v -> least ? Math.min(a.applyAsLong(v), b.applyAsLong(v)) : Math.max(a.applyAsLong(v), b.applyAsLong(v));
            }
            if (!is("(")) {
                throw fault(2);
            }
            open();
            ToLongFunction<long[]> inner = sum();
            shut();
            return inner;
        }

        private void open() throws Fault {
            if (!is("(")) {
                throw fault(2);
            }
            if (depth == 10) {
                throw fault(6);
            }
            depth++;
            next();
        }

        private void shut() throws Fault {
            need(")");
            depth--;
        }
    }
}
