/**
 * A union of posts: LANDS, ROADS, TREATIES told as texts, WAYS and their PRICES, FLOWS and DRAWS,
 * ACCOUNTS, BAGS, BOOKS, INTEREST and CASES, as the document of the project promises them.
 *
 * <p>The public methods look at their arguments and tell the STATUS; the classes inside do the work
 * and are only called with what has been looked at.
 */
public final class PostUnion {
    public static final int NONE = -1;

    private static final int IMPOSSIBLE = 1;
    private static final int MISSING = 2;
    private static final int NO_PLACE = 3;
    private static final int TOO_MANY = 4;
    private static final int DAY_GONE = 5;
    private static final int NONE_SUCH = 6;
    private static final int SO_ALREADY = 7;
    private static final int UNLIKE_SORTS = 8;
    private static final int FAULTY = 9;

    private static final int TRAYS = 4;
    private static final int MOST_NUMBERS = 60;
    private static final int LAST_DAY = 9_999;
    private static final int LAST_YEAR = 27;
    private static final int DAYS_OF_YEAR = 365;
    private static final int WEEKS = 52;
    private static final int MOST_BETWEEN = 3;
    private static final int THOUSAND = 1_000;
    private static final int MILLION = 1_000_000;
    private static final int MILLIARD = 1_000_000_000;
    private static final long MOST_GOLD = 1_000_000_000_000L;

    private int status;
    private long top;
    private long bottom = 1;
    private final long[][] trays = new long[TRAYS][MOST_NUMBERS];
    private final int[] sorts = new int[TRAYS];
    private final int[] sizes = new int[TRAYS];
    private final Lands lands = new Lands();
    private final Reader reader = new Reader();
    private final Treaties treaties = new Treaties();
    private final Mail mail = new Mail();
    private final Ways ways = new Ways(lands, treaties);
    private final Flows flows = new Flows();
    private final Accounts accounts = new Accounts();
    private final Bags bags = new Bags();
    private final Books books = new Books();
    private final Cases cases = new Cases();

    public PostUnion() {
        for (int tray = 0; tray < TRAYS; tray++) {
            sorts[tray] = NONE;
        }
    }

    public int status() {
        return status;
    }

    public long top() {
        return top;
    }

    public long bottom() {
        return bottom;
    }

    // ---- TRAYS

    public boolean tray(int tray, int sort, int many) {
        if (outside(tray, 0, TRAYS - 1) || outside(sort, 0, 3) || outside(many, 0, MOST_NUMBERS)) {
            return refused(IMPOSSIBLE);
        }
        for (int place = 0; place < MOST_NUMBERS; place++) {
            trays[tray][place] = 0;
        }
        sorts[tray] = sort;
        sizes[tray] = many;
        return accepted();
    }

    public boolean write(int tray, int place, long v) {
        int why = trayStatus(tray, place, 1);
        if (why != 0) {
            return refused(why);
        }
        trays[tray][place] = cutTo(sorts[tray], v);
        return accepted();
    }

    public boolean fill(int tray, int place, int many, long v, long by) {
        int why = outside(many, 1, MOST_NUMBERS) ? IMPOSSIBLE : trayStatus(tray, place, many);
        if (why != 0) {
            return refused(why);
        }
        for (int k = 0; k < many; k++) {
            trays[tray][place + k] = cutTo(sorts[tray], v + k * by);
        }
        return accepted();
    }

    public long read(int tray, int place) {
        int why = trayStatus(tray, place, 1);
        if (why != 0) {
            return refuse(why);
        }
        status = 0;
        return trays[tray][place];
    }

    public boolean pour(int from, int place, int to, int at, int many) {
        int why = pourStatus(from, place, to, at, many);
        if (why != 0) {
            return refused(why);
        }
        System.arraycopy(trays[from], place, trays[to], at, many);
        return accepted();
    }

    // ---- LANDS and ROADS

    public int land() {
        if (lands.isFull()) {
            return refuse(TOO_MANY);
        }
        status = 0;
        return lands.add();
    }

    public boolean gold(int land, int day, int coins) {
        if (!isLand(land) || !isDay(day) || outside(coins, 1, MILLION)) {
            return refused(IMPOSSIBLE);
        }
        if (lands.isGoldFull()) {
            return refused(TOO_MANY);
        }
        lands.addGold(land, day, coins);
        return accepted();
    }

    public long coins(int land, int day, long gold) {
        if (!isLand(land) || !isDay(day) || outside(gold, 0, MOST_GOLD)) {
            return refuse(IMPOSSIBLE);
        }
        status = 0;
        return gold * lands.goldOn(land, day) / THOUSAND;
    }

    public boolean road(int a, int b, int days, int freight) {
        // A ROAD that goes has no FREIGHT: any number may stand for it then.
        boolean goes = days == NONE;
        if (!isPair(a, b) || !goes && (outside(days, 1, 60) || outside(freight, 0, 10_000))) {
            return refused(IMPOSSIBLE);
        }
        if (goes && !lands.hasRoad(a, b)) {
            return refused(NONE_SUCH);
        }
        lands.setRoad(a, b, goes ? 0 : days, goes ? 0 : freight);
        return accepted();
    }

    // ---- TREATIES

    public int feed(int a, int b, int c, int d, int e) {
        if (!reader.hasRoom()) {
            return NONE;
        }
        reader.addToTape(a);
        reader.addToTape(b);
        reader.addToTape(c);
        reader.addToTape(d);
        reader.addToTape(e);
        return reader.tapeLength();
    }

    public int treaty(int n, int year) {
        if (outside(n, 0, reader.tapeLength()) || outside(year, 0, LAST_YEAR)) {
            return refuse(IMPOSSIBLE);
        }
        Treaty fresh = treaties.nextFree();
        if (fresh == null) {
            return refuse(TOO_MANY);
        }
        if (!reader.understands(n, fresh)) {
            return refuse(FAULTY);
        }
        status = 0;
        return treaties.add(year);
    }

    public int fault(int what) {
        if (what == 0) {
            return reader.faultKind();
        }
        return what == 1 ? reader.faultPlace() : NONE;
    }

    public int clauses(int treaty) {
        if (!treaties.has(treaty)) {
            return refuse(IMPOSSIBLE);
        }
        status = 0;
        return treaties.clausesOf(treaty);
    }

    public int inForce(int year) {
        if (outside(year, 0, LAST_YEAR)) {
            return refuse(IMPOSSIBLE);
        }
        return answerOrNoneSuch(treaties.holding(year));
    }

    public boolean reserve(int land, int treaty, int clause, int day, boolean out) {
        if (!isReserve(land, treaty, clause, day)) {
            return refused(IMPOSSIBLE);
        }
        if (treaties.isReservesFull()) {
            return refused(TOO_MANY);
        }
        if (treaties.isOutOf(land, treaty, clause, day) == out) {
            return refused(SO_ALREADY);
        }
        treaties.addReserve(land, treaty, clause, day, out);
        return accepted();
    }

    public int isOut(int land, int treaty, int clause, int day) {
        if (!isReserve(land, treaty, clause, day)) {
            return refuse(IMPOSSIBLE);
        }
        status = 0;
        return treaties.isOutOf(land, treaty, clause, day) ? 1 : 0;
    }

    public long due(int from, int to, int size, int weight, int pieces, int day, int thirds) {
        if (!isMail(from, to, size, weight, pieces, day) || outside(thirds, 0, MOST_BETWEEN)) {
            return refuse(IMPOSSIBLE);
        }
        mail.become(from, to, size, weight, pieces, day);
        mail.goOver(thirds, NONE);
        status = 0;
        return treaties.charge(false, mail);
    }

    public int dueBy(int from, int to, int size, int weight, int pieces, int day, int thirds) {
        if (!isMail(from, to, size, weight, pieces, day) || outside(thirds, 0, MOST_BETWEEN)) {
            return refuse(IMPOSSIBLE);
        }
        mail.become(from, to, size, weight, pieces, day);
        mail.goOver(thirds, NONE);
        return answerOrNoneSuch(treaties.clauseFor(false, mail));
    }

    public long third(int from, int to, int via, int size, int weight, int pieces, int day, int thirds) {
        if (!isMail(from, to, size, weight, pieces, day) || outside(thirds, 1, MOST_BETWEEN)
                || !isPair(from, via) || !isPair(via, to)) {
            return refuse(IMPOSSIBLE);
        }
        mail.become(from, to, size, weight, pieces, day);
        mail.goOver(thirds, via);
        status = 0;
        return treaties.charge(true, mail);
    }

    // ---- WAYS

    public long price(int from, int to, int size, int weight, int pieces, int day) {
        if (!isMail(from, to, size, weight, pieces, day)) {
            return refuse(IMPOSSIBLE);
        }
        mail.become(from, to, size, weight, pieces, day);
        if (!ways.findBest(mail)) {
            return refuse(NONE_SUCH);
        }
        status = 0;
        return ways.bestPrice();
    }

    public int way(int from, int to, int size, int weight, int pieces, int day, int what) {
        if (!isMail(from, to, size, weight, pieces, day) || outside(what, 0, 6)) {
            return refuse(IMPOSSIBLE);
        }
        mail.become(from, to, size, weight, pieces, day);
        if (!ways.findBest(mail)) {
            return refuse(NONE_SUCH);
        }
        if (what == 0) {
            return answerOrNoneSuch(ways.bestLength());
        }
        return answerOrNoneSuch(what == 1 ? ways.bestDays() : ways.bestLand(what - 2));
    }

    public int carried(int a, int b) {
        if (!isLand(a) || !isLand(b)) {
            return refuse(IMPOSSIBLE);
        }
        return answerOrNoneSuch(lands.isReached(a, b) ? lands.carriage(a, b) : NONE);
    }

    public long remailed(int from, int to, int size, int weight, int pieces, int day) {
        if (!isMail(from, to, size, weight, pieces, day)) {
            return refuse(IMPOSSIBLE);
        }
        mail.become(from, to, size, weight, pieces, day);
        if (ways.findRemailer(mail) == NONE) {
            return refuse(NONE_SUCH);
        }
        status = 0;
        return ways.remailPrice();
    }

    public int remailer(int from, int to, int size, int weight, int pieces, int day) {
        if (!isMail(from, to, size, weight, pieces, day)) {
            return refuse(IMPOSSIBLE);
        }
        mail.become(from, to, size, weight, pieces, day);
        return answerOrNoneSuch(ways.findRemailer(mail));
    }

    public long gain(int from, int to, int size, int weight, int pieces, int day) {
        if (!isMail(from, to, size, weight, pieces, day)) {
            return refuse(IMPOSSIBLE);
        }
        mail.become(from, to, size, weight, pieces, day);
        if (!ways.findBest(mail)) {
            return refuse(NONE_SUCH);
        }
        long own = ways.bestPrice();
        if (ways.findRemailer(mail) == NONE) {
            return refuse(NONE_SUCH);
        }
        status = 0;
        return own - ways.remailPrice();
    }

    public boolean rate(int from, int to, int price) {
        if (!isPair(from, to) || outside(price, 0, MILLIARD)) {
            return refused(IMPOSSIBLE);
        }
        lands.setRate(from, to, price);
        return accepted();
    }

    public int even(int from, int to) {
        if (!isPair(from, to)) {
            return refuse(IMPOSSIBLE);
        }
        status = 0;
        return lands.evenRate(from, to);
    }

    public int uneven() {
        status = 0;
        return lands.countUneven();
    }

    // ---- FLOWS

    public int flow(int from, int to, int size, int pieces, int tray) {
        int why = IMPOSSIBLE;
        if (isPair(from, to) && !outside(size, 0, 3) && !outside(pieces, 1, 100)) {
            why = trayStatus(tray, 0, WEEKS);
        }
        if (why == 0 && !hasOnly(tray, WEEKS, 10_000)) {
            why = IMPOSSIBLE;
        }
        if (why == 0 && flows.isFull()) {
            why = TOO_MANY;
        }
        if (why != 0) {
            return refuse(why);
        }
        status = 0;
        return flows.add(from, to, size, pieces, trays[tray]);
    }

    public int isTrue(int flow) {
        if (!flows.has(flow)) {
            return refuse(IMPOSSIBLE);
        }
        status = 0;
        return flows.trueWeight(flow);
    }

    public int draw(int weeks, int seed) {
        if (outside(weeks, 1, WEEKS) || seed < 0) {
            return refuse(IMPOSSIBLE);
        }
        flows.drawWeeks(weeks, seed);
        status = 0;
        return weeks;
    }

    public int drawn(int k) {
        if (k < 0) {
            return refuse(IMPOSSIBLE);
        }
        return answerOrNoneSuch(flows.drawnWeek(k));
    }

    public int told(int flow) {
        if (!flows.has(flow)) {
            return refuse(IMPOSSIBLE);
        }
        return answerOrNoneSuch(flows.hasDraw() ? flows.toldWeight(flow) : NONE);
    }

    public int telling(int weeks) {
        if (outside(weeks, 1, 3)) {
            return refuse(IMPOSSIBLE);
        }
        status = 0;
        return flows.findTelling(weeks);
    }

    public int tells(int k) {
        if (k < 0) {
            return refuse(IMPOSSIBLE);
        }
        return answerOrNoneSuch(flows.tellingWeek(k));
    }

    // ---- ACCOUNTS

    public long account(int year, boolean told) {
        if (outside(year, 0, LAST_YEAR)) {
            return refuse(IMPOSSIBLE);
        }
        if (told && !flows.hasDraw()) {
            return refuse(NONE_SUCH);
        }
        accounts.begin();
        for (int flow = 0; flow < flows.count(); flow++) {
            int kilograms = told ? flows.toldWeight(flow) : flows.trueWeight(flow);
            if (kilograms == 0) {
                continue;
            }
            flows.makeMail(flow, kilograms, year * DAYS_OF_YEAR, mail);
            if (!ways.findBest(mail)) {
                return refuse(NONE_SUCH);
            }
            accounts.enter(ways);
        }
        status = 0;
        return accounts.settle();
    }

    public long owes(int a, int b) {
        if (!isPair(a, b)) {
            return refuse(IMPOSSIBLE);
        }
        if (!accounts.isTold()) {
            return refuse(NONE_SUCH);
        }
        status = 0;
        return accounts.netDebt(a, b);
    }

    public long balance(int land) {
        if (!isLand(land)) {
            return refuse(IMPOSSIBLE);
        }
        if (!accounts.isTold()) {
            return refuse(NONE_SUCH);
        }
        status = 0;
        return accounts.balanceOf(land);
    }

    public long pays(int a, int b) {
        if (!isPair(a, b)) {
            return refuse(IMPOSSIBLE);
        }
        if (!accounts.isTold()) {
            return refuse(NONE_SUCH);
        }
        status = 0;
        return accounts.clearedPayment(a, b);
    }

    // ---- BAGS

    public boolean rules(int grace, int limit, int loss) {
        if (outside(grace, 0, 60) || outside(limit, 1, 365) || outside(loss, 0, 100_000)) {
            return refused(IMPOSSIBLE);
        }
        bags.setRules(grace, limit, loss);
        return accepted();
    }

    public int bag(int weight, int tray, int lands, int day) {
        int why = IMPOSSIBLE;
        if (!outside(weight, 1, MILLION) && !outside(lands, 2, Bags.MOST_PLACES) && isDay(day)) {
            why = trayStatus(tray, 0, lands);
        }
        if (why == 0 && !hasOnly(tray, lands, this.lands.count() - 1)) {
            why = IMPOSSIBLE;
        }
        if (why == 0 && !this.lands.isWay(trays[tray], lands)) {
            why = NONE_SUCH;
        }
        if (why == 0 && bags.isFull()) {
            why = TOO_MANY;
        }
        if (why != 0) {
            return refuse(why);
        }
        status = 0;
        return bags.add(weight, trays[tray], lands, day);
    }

    public boolean handed(int bag, int k, int day, int known) {
        if (!bags.hasPlace(bag, k) || !isDay(day) || !isDay(known) || known < day) {
            return refused(IMPOSSIBLE);
        }
        if (bags.isHandedFull()) {
            return refused(TOO_MANY);
        }
        if (known < bags.latestKnown()) {
            return refused(DAY_GONE);
        }
        bags.addHanded(bag, k, day, known);
        return accepted();
    }

    public int where(int bag, int known) {
        if (!bags.has(bag) || !isDay(known)) {
            return refuse(IMPOSSIBLE);
        }
        status = 0;
        return bags.landOf(bag, known);
    }

    public int late(int bag, int day, int known) {
        if (!bags.has(bag) || !isDay(day) || !isDay(known) || !bags.hasBegun(bag, day)) {
            return refuse(IMPOSSIBLE);
        }
        status = 0;
        return bags.lateness(bag, day, known, lands);
    }

    public long loses(int land, int day) {
        if (!isLand(land) || !isDay(day)) {
            return refuse(IMPOSSIBLE);
        }
        status = 0;
        return bags.lossesOf(land, day, lands);
    }

    // ---- BOOKS, INTEREST, CASES

    public int line(int side, int number, int day, int grams) {
        if (outside(side, 0, 1) || outside(number, 0, 9_999) || !isDay(day) || outside(grams, 0, MILLION)) {
            return refuse(IMPOSSIBLE);
        }
        if (books.isFull(side)) {
            return refuse(TOO_MANY);
        }
        status = 0;
        return books.add(side, number, day, grams);
    }

    public boolean close() {
        books.clear();
        return accepted();
    }

    public int join() {
        status = 0;
        books.joinLines();
        return books.joinedCost();
    }

    public int mate(int line) {
        if (!books.has(line)) {
            return refuse(IMPOSSIBLE);
        }
        books.joinLines();
        return answerOrNoneSuch(books.mateOf(line));
    }

    public int leans(int what) {
        if (outside(what, 0, 1)) {
            return refuse(IMPOSSIBLE);
        }
        status = 0;
        books.joinLines();
        return what == 0 ? books.leanOfPairs() : books.leanOfAll() - books.leanOfPairs();
    }

    public int interest(int sum, int rate, int late) {
        if (outside(sum, 0, MILLIARD) || outside(rate, 0, THOUSAND) || outside(late, 0, 10_000)) {
            return refuse(IMPOSSIBLE);
        }
        setFraction((long) sum * rate * late, (long) THOUSAND * DAYS_OF_YEAR);
        status = 0;
        return top > 0 ? 1 : 0;
    }

    public boolean weigh(int feature, int weight) {
        if (outside(feature, 0, Cases.FEATURES - 1) || outside(weight, 0, 9)) {
            return refused(IMPOSSIBLE);
        }
        cases.setWeight(feature, weight);
        return accepted();
    }

    public int rule(int features, int ruling) {
        if (outside(features, 0, MILLION - 1) || outside(ruling, 0, 9)) {
            return refuse(IMPOSSIBLE);
        }
        if (cases.isFull()) {
            return refuse(TOO_MANY);
        }
        status = 0;
        return cases.add(features, ruling);
    }

    public int judge(int features) {
        if (outside(features, 0, MILLION - 1)) {
            return refuse(IMPOSSIBLE);
        }
        return answerOrNoneSuch(cases.nearestRuling(features));
    }

    // ---- what the calls share

    private int refuse(int why) {
        status = why;
        return NONE;
    }

    private boolean refused(int why) {
        status = why;
        return false;
    }

    private boolean accepted() {
        status = 0;
        return true;
    }

    /** For answers that are never below 0 themselves. */
    private int answerOrNoneSuch(int answer) {
        status = answer < 0 ? NONE_SUCH : 0;
        return answer < 0 ? NONE : answer;
    }

    private static boolean outside(long number, long least, long most) {
        return number < least || number > most;
    }

    private static boolean isDay(int day) {
        return !outside(day, 0, LAST_DAY);
    }

    private boolean isLand(int land) {
        return !outside(land, 0, lands.count() - 1);
    }

    private boolean isPair(int a, int b) {
        return isLand(a) && isLand(b) && a != b;
    }

    private boolean isMail(int from, int to, int size, int weight, int pieces, int day) {
        return isPair(from, to) && !outside(size, 0, 3) && !outside(weight, 1, MILLIARD)
                && !outside(pieces, 1, MILLION) && isDay(day);
    }

    private boolean isReserve(int land, int treaty, int clause, int day) {
        return isLand(land) && isDay(day) && treaties.has(treaty)
                && !outside(clause, 0, treaties.clausesOf(treaty) - 1);
    }

    private int trayStatus(int tray, int place, int many) {
        if (outside(tray, 0, TRAYS - 1)) {
            return IMPOSSIBLE;
        }
        if (sorts[tray] == NONE) {
            return MISSING;
        }
        return outside(place, 0, sizes[tray] - many) ? NO_PLACE : 0;
    }

    private int pourStatus(int from, int place, int to, int at, int many) {
        if (outside(from, 0, TRAYS - 1) || outside(to, 0, TRAYS - 1) || place < 0 || at < 0 || many < 0) {
            return IMPOSSIBLE;
        }
        if (sorts[from] == NONE || sorts[to] == NONE) {
            return MISSING;
        }
        if (sorts[from] != sorts[to]) {
            return UNLIKE_SORTS;
        }
        return place > sizes[from] - many || at > sizes[to] - many ? NO_PLACE : 0;
    }

    private static long cutTo(int sort, long v) {
        switch (sort) {
            case 0:
                return (byte) v;
            case 1:
                return (short) v;
            case 2:
                return (int) v;
            default:
                return v;
        }
    }

    /** Whether the first so many numbers of a TRAY that has them are 0 to the most. */
    private boolean hasOnly(int tray, int many, int most) {
        for (int place = 0; place < many; place++) {
            if (outside(trays[tray][place], 0, most)) {
                return false;
            }
        }
        return true;
    }

    private void setFraction(long above, long below) {
        long divisor = below;
        long rest = above;
        // Euclid's rests halve at least every second time, so a long has no more than 128 of them.
        for (int k = 0; k < 128 && rest != 0; k++) {
            long next = divisor % rest;
            divisor = rest;
            rest = next;
        }
        if (divisor > 0) {
            top = above / divisor;
            bottom = below / divisor;
        }
    }

    /** The LANDS, their GOLD, the ROADS between them and the RATES told besides. */
    private static final class Lands {
        private static final int MOST = 7;
        private static final int MOST_TELLINGS = 40;
        /** More than all ROADS together cost, and far from the end of an int. */
        private static final int UNREACHED = 1_000_000;

        private int count;
        private int tellings;
        private final int[] goldLands = new int[MOST_TELLINGS];
        private final int[] goldDays = new int[MOST_TELLINGS];
        private final int[] goldCoins = new int[MOST_TELLINGS];
        /** 0 where there is no ROAD. */
        private final int[][] roadDays = new int[MOST][MOST];
        private final int[][] freights = new int[MOST][MOST];
        private final int[][] carriages = new int[MOST][MOST];
        private final int[][] rates = new int[MOST][MOST];

        private Lands() {
            findCarriages();
        }

        int count() {
            return count;
        }

        boolean isFull() {
            return count >= MOST;
        }

        int add() {
            count++;
            return count - 1;
        }

        boolean isGoldFull() {
            return tellings >= MOST_TELLINGS;
        }

        void addGold(int land, int day, int coins) {
            goldLands[tellings] = land;
            goldDays[tellings] = day;
            goldCoins[tellings] = coins;
            tellings++;
        }

        int goldOn(int land, int day) {
            int coins = THOUSAND;
            int latest = NONE;
            for (int k = 0; k < tellings; k++) {
                if (goldLands[k] == land && goldDays[k] <= day && goldDays[k] >= latest) {
                    latest = goldDays[k];
                    coins = goldCoins[k];
                }
            }
            return coins;
        }

        boolean hasRoad(int a, int b) {
            return roadDays[a][b] > 0;
        }

        int daysOf(int a, int b) {
            return roadDays[a][b];
        }

        int freightOf(int a, int b) {
            return freights[a][b];
        }

        void setRoad(int a, int b, int days, int freight) {
            roadDays[a][b] = days;
            roadDays[b][a] = days;
            freights[a][b] = freight;
            freights[b][a] = freight;
            findCarriages();
        }

        /** The least FREIGHT over any ROADS, told anew whenever a ROAD comes or goes. */
        private void findCarriages() {
            for (int a = 0; a < MOST; a++) {
                for (int b = 0; b < MOST; b++) {
                    int direct = roadDays[a][b] > 0 ? freights[a][b] : UNREACHED;
                    carriages[a][b] = a == b ? 0 : direct;
                }
            }
            for (int over = 0; over < MOST; over++) {
                for (int a = 0; a < MOST; a++) {
                    for (int b = 0; b < MOST; b++) {
                        int detour = carriages[a][over] + carriages[over][b];
                        carriages[a][b] = Math.min(carriages[a][b], detour);
                    }
                }
            }
        }

        boolean isReached(int a, int b) {
            return carriages[a][b] < UNREACHED;
        }

        int carriage(int a, int b) {
            return carriages[a][b];
        }

        /** Whether numbers of LANDS that there are make a WAY. */
        boolean isWay(long[] row, int many) {
            int seen = 0;
            for (int k = 0; k < many && k < row.length; k++) {
                int here = (int) row[k];
                if ((seen >> here & 1) != 0 || k > 0 && !hasRoad((int) row[k - 1], here)) {
                    return false;
                }
                seen |= 1 << here;
            }
            return true;
        }

        void setRate(int from, int to, int price) {
            rates[from][to] = price;
        }

        /**
         * One round is enough: CARRIED is the least over any ROADS already, so being carried twice
         * is never less than being carried once.
         */
        int evenRate(int from, int to) {
            int least = rates[from][to];
            for (int abroad = 0; abroad < count; abroad++) {
                if (abroad != to && isReached(from, abroad)) {
                    least = Math.min(least, carriages[from][abroad] + rates[abroad][to]);
                }
            }
            return least;
        }

        int countUneven() {
            int uneven = 0;
            for (int from = 0; from < count; from++) {
                for (int to = 0; to < count; to++) {
                    if (from != to && rates[from][to] > evenRate(from, to)) {
                        uneven++;
                    }
                }
            }
            return uneven;
        }
    }

    /** MAIL that is looked at, with the VARIABLES that TREATIES may name. */
    private static final class Mail {
        private static final int VARIABLES = 7;

        private int from;
        private int to;
        private int via;
        private int day;
        /** weight, pieces, size, heap, year, thirds, via: in the order of the Reader's words. */
        private final long[] variables = new long[VARIABLES];

        private Mail() {
        }

        void become(int from, int to, int size, int weight, int pieces, int day) {
            this.from = from;
            this.to = to;
            this.day = day;
            variables[0] = weight;
            variables[1] = pieces;
            variables[2] = size;
            variables[3] = pieces > 0 ? weight / pieces : 0;
            variables[4] = day / DAYS_OF_YEAR;
            goOver(0, NONE);
        }

        void goOver(int thirds, int via) {
            this.via = via;
            variables[5] = thirds;
            variables[6] = via;
        }

        void postIn(int land) {
            from = land;
        }

        int from() {
            return from;
        }

        int to() {
            return to;
        }

        int via() {
            return via;
        }

        int day() {
            return day;
        }

        int year() {
            return day / DAYS_OF_YEAR;
        }

        long weight() {
            return variables[0];
        }

        long variable(int which) {
            return which >= 0 && which < VARIABLES ? variables[which] : 0;
        }
    }

    /**
     * One TREATY as code in postfix order: what is not below 0 is a NUMBER, all else is -1 less the
     * Reader's kind of a VARIABLE or a sign.
     */
    private static final class Treaty {
        private static final int MOST_CLAUSES = 12;
        private static final int MOST_CODE = 600;
        /**
         * At most 3 numbers wait at each of 11 depths (the first of least or most, one to add to,
         * one to multiply), 3 more for or, and, and what is compared.
         */
        private static final int MOST_WAITING = 48;

        private int count;
        private int length;
        private final boolean[] thirds = new boolean[MOST_CLAUSES];
        private final int[] froms = new int[MOST_CLAUSES];
        private final int[] tos = new int[MOST_CLAUSES];
        private final int[] tests = new int[MOST_CLAUSES];
        private final int[] sums = new int[MOST_CLAUSES];
        private final int[] ends = new int[MOST_CLAUSES];
        private final int[] code = new int[MOST_CODE];
        private final long[] waiting = new long[MOST_WAITING];

        private Treaty() {
        }

        void clear() {
            count = 0;
            length = 0;
        }

        int count() {
            return count;
        }

        int length() {
            return length;
        }

        void emit(int what) {
            if (length < MOST_CODE) {
                code[length] = what;
                length++;
            }
        }

        /** Its SUM ends where the code ends now; a TEST without code is none. */
        void addClause(boolean third, int from, int to, int test, int sum) {
            if (count >= MOST_CLAUSES) {
                return;
            }
            thirds[count] = third;
            froms[count] = from;
            tos[count] = to;
            tests[count] = test;
            sums[count] = sum;
            ends[count] = length;
            count++;
        }

        boolean serves(int clause, boolean third, int from, int to) {
            return thirds[clause] == third
                    && (froms[clause] == 0 || (froms[clause] >> from & 1) != 0)
                    && (tos[clause] == 0 || (tos[clause] >> to & 1) != 0);
        }

        /** The TEST of a CLAUSE (0 if it doesn't hold), or its SUM. */
        long compute(int clause, boolean test, Mail mail) {
            int start = test ? tests[clause] : sums[clause];
            int end = test ? sums[clause] : ends[clause];
            if (start == end) {
                return 1;
            }
            int high = 0;
            for (int at = start; at < end && at < MOST_CODE; at++) {
                int kind = -1 - code[at];
                if (kind < 0 || Reader.isVariable(kind)) {
                    if (high >= MOST_WAITING) {
                        return 0;
                    }
                    waiting[high] = kind < 0 ? code[at] : mail.variable(kind - Reader.WEIGHT);
                    high++;
                } else if (kind == Reader.NOT) {
                    if (high < 1) {
                        return 0;
                    }
                    waiting[high - 1] = 1 - waiting[high - 1];
                } else {
                    if (high < 2) {
                        return 0;
                    }
                    high--;
                    waiting[high - 1] = both(kind, waiting[high - 1], waiting[high]);
                }
            }
            return high > 0 ? waiting[0] : 0;
        }

        private static long both(int kind, long a, long b) {
            switch (kind) {
                case '+':
                    return a + b;
                case '-':
                    return a - b;
                case '*':
                    return a * b;
                case '/':
                    return b == 0 ? 0 : a / b;
                case '<':
                    return a < b ? 1 : 0;
                case '>':
                    return a > b ? 1 : 0;
                case '=':
                    return a == b ? 1 : 0;
                case Reader.LEAST:
                case Reader.AND:
                    return Math.min(a, b);
                default:
                    return Math.max(a, b);
            }
        }
    }

    /** The tape, and how the text of a TREATY is read from it: all TOKENS, then the CLAUSES. */
    private static final class Reader {
        /** Columns of six signs: the kind of a known word is the number of its column. */
        private static final String WORDS =
                "due   third from  to    when  gives or    and   not   least most  weightpiecessize  heap  year  thirdsvia   ";
        private static final int COLUMN = 6;
        private static final int DUE = 0;
        private static final int THIRD = 1;
        private static final int FROM = 2;
        private static final int TO = 3;
        private static final int WHEN = 4;
        private static final int GIVES = 5;
        private static final int OR = 6;
        private static final int AND = 7;
        private static final int NOT = 8;
        private static final int LEAST = 9;
        private static final int MOST = 10;
        private static final int WEIGHT = 11;
        private static final int VIA = 17;
        private static final int NAME = 18;
        private static final int LONG_WORD = 19;
        private static final int NUMBER = 20;
        private static final int END = 21;
        private static final int NO_TOKEN = 22;
        /** A sign's kind is its own number, which is above those of all words. */
        private static final String SIGNS = ":;,<>=+-*/()";
        /** What is put to LEAST or MOST while the bracket waits for its comma. */
        private static final int FIRST_OF = 100;

        private static final int MOST_TAPE = 600;
        private static final int MOST_LETTERS = 8;
        private static final int MOST_DIGITS = 7;
        private static final int MOST_DEPTH = 10;
        /** At most 3 signs wait at each of 11 depths, and 4 more: or, and, not, and what compares. */
        private static final int MOST_PENDING = 48;

        /** Where a formula is: at the first of a ONE, ahead of or behind its COMPARES, in a SUM. */
        private static final int FIRST = 0;
        private static final int LEFT = 1;
        private static final int RIGHT = 2;
        private static final int WHOLE = 3;
        private static final int OVER = 4;

        private final byte[] tape = new byte[MOST_TAPE];
        private int tapeLength;
        /** How much of the tape is the text, and how far its TOKENS have been told apart. */
        private int length;
        private int next;
        private final int[] kinds = new int[MOST_TAPE + 1];
        private final int[] places = new int[MOST_TAPE + 1];
        private final long[] values = new long[MOST_TAPE + 1];
        private int tokens;
        /** The TOKEN at which the reading is, and its kind. */
        private int current;
        private int kind;
        private int faultKind = NONE;
        private int faultPlace = NONE;
        private Treaty treaty;
        private final long[] names = new long[Treaty.MOST_CLAUSES];
        private final int[] pending = new int[MOST_PENDING];
        private int pendings;
        private int depth;
        private int part;
        private boolean wantsAtom;

        private Reader() {
        }

        static boolean isVariable(int kind) {
            return kind >= WEIGHT && kind <= VIA;
        }

        int faultKind() {
            return faultKind;
        }

        int faultPlace() {
            return faultPlace;
        }

        int tapeLength() {
            return tapeLength;
        }

        boolean hasRoom() {
            return tapeLength <= MOST_TAPE - 20;
        }

        void addToTape(int four) {
            for (int shift = 24; shift >= 0 && tapeLength < MOST_TAPE; shift -= 8) {
                tape[tapeLength] = (byte) (four >> shift);
                tapeLength++;
            }
        }

        /** Whether the text has no FAULT; if it has one, the code of the TREATY is of no use. */
        boolean understands(int n, Treaty into) {
            length = Math.min(n, MOST_TAPE);
            tapeLength = 0;
            treaty = into;
            treaty.clear();
            faultKind = 0;
            faultPlace = NONE;
            tellTokens();
            current = 0;
            kind = kinds[0];
            for (int k = 0; k <= Treaty.MOST_CLAUSES && faultKind == 0 && kind != END; k++) {
                takeClause();
            }
            return faultKind == 0;
        }

        /** Up to the first that is no TOKEN: nothing behind it can be reached. */
        private void tellTokens() {
            next = 0;
            tokens = 0;
            boolean more = true;
            for (int k = 0; k <= MOST_TAPE && more; k++) {
                while (next < length && (tape[next] == ' ' || tape[next] == '\n')) {
                    next++;
                }
                places[k] = next;
                kinds[k] = tellToken(k);
                more = kinds[k] != END && kinds[k] != NO_TOKEN;
                tokens++;
            }
        }

        private int tellToken(int k) {
            if (next >= length) {
                return END;
            }
            int sign = tape[next];
            if (isLetter(sign)) {
                return tellWord(k);
            }
            if (isDigit(sign)) {
                return tellNumber(k);
            }
            next++;
            return SIGNS.indexOf((char) (sign & 255)) >= 0 ? sign : NO_TOKEN;
        }

        private static boolean isLetter(int sign) {
            return sign >= 'a' && sign <= 'z';
        }

        private static boolean isDigit(int sign) {
            return sign >= '0' && sign <= '9';
        }

        /** The value of a word that may be a NAME tells it from all others. */
        private int tellWord(int k) {
            int start = next;
            long value = 0;
            while (next < length && isLetter(tape[next])) {
                value = next - start < MOST_LETTERS ? value * 27 + (tape[next] - 'a' + 1) : value;
                next++;
            }
            values[k] = value;
            return next - start > MOST_LETTERS ? LONG_WORD : wordKind(start);
        }

        private int wordKind(int start) {
            if (next - start > COLUMN) {
                return NAME;
            }
            for (int column = 0; column <= VIA; column++) {
                int alike = 0;
                for (int k = 0; k < COLUMN; k++) {
                    int letter = start + k < next ? tape[start + k] : ' ';
                    alike += WORDS.charAt(column * COLUMN + k) == letter ? 1 : 0;
                }
                if (alike == COLUMN) {
                    return column;
                }
            }
            return NAME;
        }

        private int tellNumber(int k) {
            int start = next;
            long value = 0;
            while (next < length && isDigit(tape[next])) {
                value = value * 10 + (tape[next] - '0');
                next++;
            }
            values[k] = value;
            return next - start > MOST_DIGITS ? NO_TOKEN : NUMBER;
        }

        /** Behind a FAULT nothing more is taken, so each step can follow the one ahead of it. */
        private void takeClause() {
            takeName();
            need(':');
            boolean third = take(THIRD);
            if (!third) {
                need(DUE);
            }
            int from = take(FROM) ? takeList() : 0;
            int to = take(TO) ? takeList() : 0;
            int test = treaty.length();
            if (take(WHEN)) {
                takeFormula(FIRST);
            }
            int sum = treaty.length();
            need(GIVES);
            takeFormula(WHOLE);
            need(';');
            if (faultKind == 0) {
                treaty.addClause(third, from, to, test, sum);
            }
        }

        private void takeName() {
            int known = treaty.count();
            if (kind != NAME) {
                blame(2);
            } else if (known >= Treaty.MOST_CLAUSES) {
                blame(3);
            } else if (isNamed(known)) {
                blame(4);
            } else {
                names[known] = values[current];
                step();
            }
        }

        private boolean isNamed(int known) {
            for (int k = 0; k < known; k++) {
                if (names[k] == values[current]) {
                    return true;
                }
            }
            return false;
        }

        /** The LANDS of a LIST as bits: no more of them can be told than there are, none twice. */
        private int takeList() {
            int told = 0;
            boolean more = true;
            for (int k = 0; k <= Lands.MOST && more; k++) {
                long land = values[current];
                if (kind != NUMBER) {
                    blame(2);
                } else if (land >= Lands.MOST || (told >> (int) land & 1) != 0) {
                    blame(5);
                } else {
                    told |= 1 << (int) land;
                    step();
                }
                more = take(',');
            }
            return told;
        }

        /** A TEST up to gives, or a SUM up to its semicolon. */
        private void takeFormula(int begins) {
            pendings = 0;
            depth = 0;
            part = begins;
            wantsAtom = true;
            for (int k = 0; k < tokens && faultKind == 0 && part != OVER; k++) {
                if (wantsAtom) {
                    takeAtom();
                } else {
                    takeJoint();
                }
            }
        }

        private void takeAtom() {
            boolean isFirst = part == FIRST;
            part = isFirst ? LEFT : part;
            if (kind == NUMBER || isVariable(kind)) {
                treaty.emit(kind == NUMBER ? (int) values[current] : -1 - kind);
                wantsAtom = false;
                step();
            } else if (kind == '(') {
                openBracket(kind);
            } else if (kind == LEAST || kind == MOST) {
                int mark = FIRST_OF + kind;
                step();
                openBracket(mark);
            } else if (isFirst && kind == NOT) {
                hold(kind);
                step();
            } else {
                blame(2);
            }
        }

        private void openBracket(int mark) {
            if (kind != '(') {
                blame(2);
            } else if (depth >= MOST_DEPTH) {
                blame(6);
            } else {
                depth++;
                hold(mark);
                step();
            }
        }

        /** What can stand behind an ATOM. */
        private void takeJoint() {
            int binding = bindingOf(kind);
            if (binding >= 5) {
                joinBy(binding, part);
            } else if (depth > 0) {
                takeInBracket();
            } else if (part == LEFT && binding == 4) {
                joinBy(binding, RIGHT);
            } else if (part == RIGHT && (kind == AND || kind == OR)) {
                joinBy(binding, FIRST);
            } else if (part == RIGHT && kind == GIVES || part == WHOLE && kind == ';') {
                unwind(1);
                part = OVER;
            } else {
                blame(2);
            }
        }

        private void joinBy(int binding, int partBehind) {
            unwind(binding);
            hold(kind);
            part = partBehind;
            wantsAtom = true;
            step();
        }

        /** A comma or a bracket that closes, whichever the innermost bracket waits for. */
        private void takeInBracket() {
            unwind(1);
            int mark = pendings > 0 ? pending[pendings - 1] : 0;
            boolean isFirst = mark > FIRST_OF;
            if (mark == 0 || kind != (isFirst ? ',' : ')')) {
                blame(2);
                return;
            }
            pendings--;
            if (isFirst) {
                hold(mark - FIRST_OF);
                wantsAtom = true;
            } else {
                depth--;
                if (mark != '(') {
                    treaty.emit(-1 - mark);
                }
            }
            step();
        }

        /** How tightly a sign binds; brackets, which only their own end takes away, do not bind. */
        private static int bindingOf(int kind) {
            switch (kind) {
                case OR:
                    return 1;
                case AND:
                    return 2;
                case NOT:
                    return 3;
                case '<':
                case '>':
                case '=':
                    return 4;
                case '+':
                case '-':
                    return 5;
                case '*':
                case '/':
                    return 6;
                default:
                    return 0;
            }
        }

        private void hold(int mark) {
            if (pendings < MOST_PENDING) {
                pending[pendings] = mark;
                pendings++;
            }
        }

        /** Emits the signs that bind at least so tightly. */
        private void unwind(int binding) {
            while (pendings > 0 && bindingOf(pending[pendings - 1]) >= binding) {
                pendings--;
                treaty.emit(-1 - pending[pendings]);
            }
        }

        private boolean take(int wanted) {
            if (faultKind != 0 || kind != wanted) {
                return false;
            }
            step();
            return true;
        }

        private void need(int wanted) {
            if (!take(wanted)) {
                blame(2);
            }
        }

        private void step() {
            if (current < tokens - 1) {
                current++;
                kind = kinds[current];
            }
        }

        /** Only the first FAULT counts; of one TOKEN, that it is none comes ahead of all others. */
        private void blame(int what) {
            if (faultKind == 0) {
                faultKind = kind == NO_TOKEN ? 1 : what;
                faultPlace = places[current];
            }
        }
    }

    /** The TREATIES and the RESERVES of LANDS that opt out. */
    private static final class Treaties {
        private static final int MOST = 4;
        private static final int MOST_RESERVES = 40;

        private int count;
        private final Treaty[] all = new Treaty[MOST];
        private final int[] years = new int[MOST];
        private int reserves;
        private final int[] reserveLands = new int[MOST_RESERVES];
        private final int[] reserveTreaties = new int[MOST_RESERVES];
        private final int[] reserveClauses = new int[MOST_RESERVES];
        private final int[] reserveDays = new int[MOST_RESERVES];
        private final boolean[] reserveOuts = new boolean[MOST_RESERVES];

        private Treaties() {
            for (int k = 0; k < MOST; k++) {
                all[k] = new Treaty();
            }
        }

        boolean has(int treaty) {
            return treaty >= 0 && treaty < count;
        }

        /** The one to read the next text to, null if there are as many as can be. */
        Treaty nextFree() {
            return count < MOST ? all[count] : null;
        }

        /** The next free one has been read and holds from a YEAR on. */
        int add(int year) {
            years[count] = year;
            count++;
            return count - 1;
        }

        int clausesOf(int number) {
            Treaty treaty = has(number) ? all[number] : null;
            return treaty == null ? 0 : treaty.count();
        }

        int holding(int year) {
            int latest = NONE;
            int began = NONE;
            for (int k = 0; k < count; k++) {
                if (years[k] <= year && years[k] >= began) {
                    latest = k;
                    began = years[k];
                }
            }
            return latest;
        }

        boolean isReservesFull() {
            return reserves >= MOST_RESERVES;
        }

        void addReserve(int land, int treaty, int clause, int day, boolean out) {
            reserveLands[reserves] = land;
            reserveTreaties[reserves] = treaty;
            reserveClauses[reserves] = clause;
            reserveDays[reserves] = day;
            reserveOuts[reserves] = out;
            reserves++;
        }

        boolean isOutOf(int land, int treaty, int clause, int day) {
            boolean out = false;
            int latest = NONE;
            for (int k = 0; k < reserves; k++) {
                boolean isOfIt = reserveLands[k] == land && reserveTreaties[k] == treaty
                        && reserveClauses[k] == clause;
                if (isOfIt && reserveDays[k] <= day && reserveDays[k] >= latest) {
                    latest = reserveDays[k];
                    out = reserveOuts[k];
                }
            }
            return out;
        }

        /** The CLAUSE by which MAIL is DUE, or by which its via has a THIRD; NONE without any. */
        int clauseFor(boolean third, Mail mail) {
            int number = holding(mail.year());
            Treaty treaty = has(number) ? all[number] : null;
            if (treaty == null) {
                return NONE;
            }
            int other = third ? mail.via() : mail.to();
            for (int clause = 0; clause < treaty.count(); clause++) {
                if (treaty.serves(clause, third, mail.from(), mail.to())
                        && !isOutOf(mail.from(), number, clause, mail.day())
                        && !isOutOf(other, number, clause, mail.day())
                        && treaty.compute(clause, true, mail) != 0) {
                    return clause;
                }
            }
            return NONE;
        }

        long charge(boolean third, Mail mail) {
            int clause = clauseFor(third, mail);
            int number = holding(mail.year());
            Treaty treaty = clause != NONE && has(number) ? all[number] : null;
            if (treaty == null) {
                return 0;
            }
            return Math.max(0, Math.min(MOST_GOLD, treaty.compute(clause, false, mail)));
        }
    }

    /** Looks for the BEST WAY of MAIL, and for the LAND from which it is posted for the least. */
    private static final class Ways {
        private static final int MOST_PLACES = MOST_BETWEEN + 2;

        private final Lands lands;
        private final Treaties treaties;
        private int goal;
        private long weight;
        /** By how many LANDS lie between; THIRDS also by the LAND. */
        private final long[] dues = new long[MOST_BETWEEN + 1];
        private final long[][] thirds = new long[MOST_BETWEEN + 1][Lands.MOST];
        private final int[] path = new int[MOST_PLACES];
        private final int[] best = new int[MOST_PLACES];
        private int bestLength;
        private int bestDays;
        private long bestPrice;
        private long remailPrice;

        private Ways(Lands lands, Treaties treaties) {
            this.lands = lands;
            this.treaties = treaties;
        }

        int bestLength() {
            return bestLength;
        }

        int bestDays() {
            return bestDays;
        }

        int bestLand(int k) {
            return k >= 0 && k < bestLength ? best[k] : NONE;
        }

        long bestPrice() {
            return bestPrice;
        }

        long bestDue() {
            return bestLength >= 2 ? dues[bestLength - 2] : 0;
        }

        long bestThird(int land) {
            return bestLength >= 2 ? thirds[bestLength - 2][land] : 0;
        }

        long remailPrice() {
            return remailPrice;
        }

        /** Whether there is a WAY. What is owed on it depends on how many LANDS lie between alone. */
        boolean findBest(Mail mail) {
            goal = mail.to();
            weight = mail.weight();
            bestLength = 0;
            for (int between = 0; between <= MOST_BETWEEN; between++) {
                mail.goOver(between, NONE);
                dues[between] = treaties.charge(false, mail);
                for (int via = 0; via < lands.count() && between > 0; via++) {
                    if (via != mail.from() && via != goal) {
                        mail.goOver(between, via);
                        thirds[between][via] = treaties.charge(true, mail);
                    }
                }
            }
            path[0] = mail.from();
            extend(1, 0, 0);
            return bestLength > 0;
        }

        /** By number of the next LAND, so that of equal WAYS the first one is found first. */
        private void extend(int length, int days, long freight) {
            if (length < 1 || length >= MOST_PLACES) {
                return;
            }
            int last = path[length - 1];
            for (int next = 0; next < lands.count(); next++) {
                if (!lands.hasRoad(last, next) || isOnPath(next, length)) {
                    continue;
                }
                int allDays = days + lands.daysOf(last, next);
                long allFreight = freight + weight * lands.freightOf(last, next) / THOUSAND;
                path[length] = next;
                if (next == goal) {
                    arrive(length + 1, allDays, allFreight);
                } else {
                    extend(length + 1, allDays, allFreight);
                }
            }
        }

        private boolean isOnPath(int land, int length) {
            for (int k = 0; k < length; k++) {
                if (path[k] == land) {
                    return true;
                }
            }
            return false;
        }

        private void arrive(int length, int days, long freight) {
            long price = freight + dues[length - 2];
            for (int k = 1; k < length - 1; k++) {
                price += thirds[length - 2][path[k]];
            }
            boolean isBetter = price < bestPrice || price == bestPrice && days < bestDays;
            if (bestLength > 0 && !isBetter) {
                return;
            }
            bestLength = length;
            bestDays = days;
            bestPrice = price;
            for (int k = 0; k < length; k++) {
                best[k] = path[k];
            }
        }

        /** The LAND abroad in which MAIL is posted for the least, or NONE. */
        int findRemailer(Mail mail) {
            int home = mail.from();
            int by = NONE;
            for (int abroad = 0; abroad < lands.count(); abroad++) {
                if (abroad == home || abroad == mail.to() || !lands.isReached(home, abroad)) {
                    continue;
                }
                mail.postIn(abroad);
                if (!findBest(mail)) {
                    continue;
                }
                long price = bestPrice + weight * lands.carriage(home, abroad) / THOUSAND;
                if (by == NONE || price < remailPrice) {
                    by = abroad;
                    remailPrice = price;
                }
            }
            mail.postIn(home);
            return by;
        }
    }

    /** The FLOWS, the latest DRAW, and the WEEKS that tell best. */
    private static final class Flows {
        private static final int MOST = 8;
        private static final int MOST_TELLING = 3;

        private int count;
        private final int[] froms = new int[MOST];
        private final int[] tos = new int[MOST];
        private final int[] flowSizes = new int[MOST];
        private final int[] pieces = new int[MOST];
        private final int[] trues = new int[MOST];
        private final int[][] kilograms = new int[MOST][WEEKS];
        private int draws;
        private final int[] drawnWeeks = new int[WEEKS];
        private int tellings;
        private final int[] tellingWeeks = new int[MOST_TELLING];
        private final int[] tried = new int[MOST_TELLING];

        private Flows() {
        }

        int count() {
            return count;
        }

        boolean has(int flow) {
            return flow >= 0 && flow < count;
        }

        boolean isFull() {
            return count >= MOST;
        }

        int add(int from, int to, int size, int many, long[] row) {
            froms[count] = from;
            tos[count] = to;
            flowSizes[count] = size;
            pieces[count] = many;
            int all = 0;
            for (int week = 0; week < WEEKS && week < row.length; week++) {
                kilograms[count][week] = (int) row[week];
                all += kilograms[count][week];
            }
            trues[count] = all;
            count++;
            return count - 1;
        }

        int trueWeight(int flow) {
            return trues[flow];
        }

        void makeMail(int flow, int weight, int day, Mail mail) {
            mail.become(froms[flow], tos[flow], flowSizes[flow], weight * THOUSAND, weight * pieces[flow], day);
        }

        boolean hasDraw() {
            return draws > 0;
        }

        void drawWeeks(int weeks, int seed) {
            long lots = seed;
            draws = 0;
            for (int week = 0; week < WEEKS; week++) {
                lots = lots * 1_103_515_245L + 12_345L & 0x7fffffffL;
                if (lots / 65_536 % (WEEKS - week) < weeks - draws) {
                    drawnWeeks[draws] = week;
                    draws++;
                }
            }
        }

        int drawnWeek(int k) {
            return k >= 0 && k < draws ? drawnWeeks[k] : NONE;
        }

        int toldWeight(int flow) {
            return toldBy(flow, drawnWeeks, draws);
        }

        private int toldBy(int flow, int[] weeks, int many) {
            int sum = 0;
            for (int k = 0; k < many && k < weeks.length; k++) {
                sum += kilograms[flow][weeks[k]];
            }
            return many > 0 ? WEEKS * sum / many : 0;
        }

        int tellingWeek(int k) {
            return k >= 0 && k < tellings ? tellingWeeks[k] : NONE;
        }

        /** Goes through all choices in their order, so that of equal ones the first is kept. */
        int findTelling(int weeks) {
            int least = Integer.MAX_VALUE;
            tellings = weeks;
            for (int k = 0; k < weeks; k++) {
                tried[k] = k;
            }
            boolean more = true;
            for (int choice = 0; choice < WEEKS * WEEKS * WEEKS && more; choice++) {
                int far = farOff(weeks, least);
                if (far < least) {
                    least = far;
                    for (int k = 0; k < weeks; k++) {
                        tellingWeeks[k] = tried[k];
                    }
                }
                more = tryNext(weeks);
            }
            return least;
        }

        /** How far off the tried WEEKS tell; it may stop where that is no better than the least. */
        private int farOff(int weeks, int least) {
            int far = 0;
            for (int flow = 0; flow < count && far < least; flow++) {
                far += Math.abs(toldBy(flow, tried, weeks) - trues[flow]);
            }
            return far;
        }

        private boolean tryNext(int weeks) {
            for (int k = weeks - 1; k >= 0; k--) {
                if (tried[k] < WEEKS - weeks + k) {
                    tried[k]++;
                    for (int later = k + 1; later < weeks; later++) {
                        tried[later] = tried[later - 1] + 1;
                    }
                    return true;
                }
            }
            return false;
        }
    }

    /** Who owes whom by the latest ACCOUNT; a new one is made aside, for it may be refused. */
    private static final class Accounts {
        private boolean isTold;
        private final long[][] owed = new long[Lands.MOST][Lands.MOST];
        private final long[][] fresh = new long[Lands.MOST][Lands.MOST];
        private final long[] left = new long[Lands.MOST];

        private Accounts() {
        }

        boolean isTold() {
            return isTold;
        }

        void begin() {
            for (int a = 0; a < Lands.MOST; a++) {
                for (int b = 0; b < Lands.MOST; b++) {
                    fresh[a][b] = 0;
                }
            }
        }

        /** Enters what is owed on the BEST WAY that was found last. */
        void enter(Ways ways) {
            int last = ways.bestLength() - 1;
            if (last < 1) {
                return;
            }
            int from = ways.bestLand(0);
            fresh[from][ways.bestLand(last)] += ways.bestDue();
            for (int k = 1; k < last; k++) {
                int via = ways.bestLand(k);
                fresh[from][via] += ways.bestThird(via);
            }
        }

        long settle() {
            long all = 0;
            for (int a = 0; a < Lands.MOST; a++) {
                for (int b = 0; b < Lands.MOST; b++) {
                    owed[a][b] = fresh[a][b];
                    all += fresh[a][b];
                }
            }
            isTold = true;
            return all;
        }

        long netDebt(int a, int b) {
            return Math.max(0, owed[a][b] - owed[b][a]);
        }

        long balanceOf(int land) {
            long balance = 0;
            for (int other = 0; other < Lands.MOST; other++) {
                balance += owed[other][land] - owed[land][other];
            }
            return balance;
        }

        long clearedPayment(int payer, int payee) {
            for (int land = 0; land < Lands.MOST; land++) {
                left[land] = balanceOf(land);
            }
            for (int a = 0; a <= payer; a++) {
                for (int b = 0; b < Lands.MOST && left[a] < 0; b++) {
                    long payment = Math.min(-left[a], Math.max(0, left[b]));
                    if (a == payer && b == payee) {
                        return payment;
                    }
                    left[a] += payment;
                    left[b] -= payment;
                }
            }
            return 0;
        }
    }

    /** The BAGS, and where they came and since when that is KNOWN. */
    private static final class Bags {
        private static final int MOST = 30;
        private static final int MOST_PLACES = 5;
        private static final int MOST_HANDED = 150;
        private static final int DAYS_OF_GONE_ROAD = 60;

        private int grace = 5;
        private int limit = 30;
        private int loss = 40;
        private int count;
        private final int[] weights = new int[MOST];
        private final int[] begins = new int[MOST];
        private final int[] lengths = new int[MOST];
        private final int[][] places = new int[MOST][MOST_PLACES];
        private int tellings;
        private final int[] handedBags = new int[MOST_HANDED];
        private final int[] handedPlaces = new int[MOST_HANDED];
        private final int[] handedDays = new int[MOST_HANDED];
        private final int[] handedKnown = new int[MOST_HANDED];
        /** Where the BAG is that was looked for last, and since when. */
        private int foundPlace;
        private int foundSince;

        private Bags() {
        }

        void setRules(int grace, int limit, int loss) {
            this.grace = grace;
            this.limit = limit;
            this.loss = loss;
        }

        boolean has(int bag) {
            return bag >= 0 && bag < count;
        }

        boolean hasPlace(int bag, int k) {
            return has(bag) && k >= 0 && k < lengths[bag];
        }

        boolean isFull() {
            return count >= MOST;
        }

        int add(int weight, long[] row, int many, int day) {
            weights[count] = weight;
            begins[count] = day;
            lengths[count] = many;
            for (int k = 0; k < many && k < MOST_PLACES; k++) {
                places[count][k] = (int) row[k];
            }
            count++;
            return count - 1;
        }

        boolean hasBegun(int bag, int day) {
            return begins[bag] <= day;
        }

        boolean isHandedFull() {
            return tellings >= MOST_HANDED;
        }

        int latestKnown() {
            return tellings > 0 ? handedKnown[tellings - 1] : 0;
        }

        void addHanded(int bag, int k, int day, int known) {
            handedBags[tellings] = bag;
            handedPlaces[tellings] = k;
            handedDays[tellings] = day;
            handedKnown[tellings] = known;
            tellings++;
        }

        private void find(int bag, int known) {
            foundPlace = 0;
            foundSince = begins[bag];
            for (int k = 0; k < tellings; k++) {
                if (handedBags[k] == bag && handedKnown[k] <= known && handedPlaces[k] >= foundPlace) {
                    foundPlace = handedPlaces[k];
                    foundSince = handedDays[k];
                }
            }
        }

        int landOf(int bag, int known) {
            find(bag, known);
            return places[bag][foundPlace];
        }

        int lateness(int bag, int day, int known, Lands lands) {
            find(bag, known);
            if (foundPlace >= lengths[bag] - 1) {
                return 0;
            }
            int here = places[bag][foundPlace];
            int there = places[bag][foundPlace + 1];
            int roadDays = lands.hasRoad(here, there) ? lands.daysOf(here, there) : DAYS_OF_GONE_ROAD;
            int over = day - foundSince - roadDays - grace;
            if (over <= 0) {
                return 0;
            }
            return over > limit ? 2 : 1;
        }

        long lossesOf(int land, int day, Lands lands) {
            long all = 0;
            for (int bag = 0; bag < count; bag++) {
                if (hasBegun(bag, day) && landOf(bag, day) == land && lateness(bag, day, day, lands) == 2) {
                    all += (long) weights[bag] * loss / THOUSAND;
                }
            }
            return all;
        }
    }

    /** The BOOKS of two sides, and the JOINED pairs of their LINES. */
    private static final class Books {
        private static final int SIDES = 2;
        private static final int MOST = 12;
        private static final int ALONE = 25;
        /** LINES of side 1, and for each one of side 0 a place in which it has none. */
        private static final int COLUMNS = 2 * MOST;
        /** 13 to the 12th: room behind each COST for all mates of side 0, figure by figure. */
        private static final long SCALE = 23_298_085_122_481L;
        private static final int FIGURES = MOST + 1;
        private static final long FAR = Long.MAX_VALUE / 4;

        private final int[] counts = new int[SIDES];
        private final int[][] numbers = new int[SIDES][MOST];
        private final int[][] days = new int[SIDES][MOST];
        private final int[][] grams = new int[SIDES][MOST];
        private final int[] mates = new int[MOST];
        private final long[] figures = new long[MOST];
        /** Of the search for the least sum: rows and columns from 1 on, 0 is none. */
        private final long[] rowWorth = new long[MOST + 1];
        private final long[] columnWorth = new long[COLUMNS + 1];
        private final long[] slack = new long[COLUMNS + 1];
        private final int[] rowOf = new int[COLUMNS + 1];
        private final int[] cameFrom = new int[COLUMNS + 1];
        private final boolean[] isSeen = new boolean[COLUMNS + 1];

        private Books() {
            long figure = 1;
            for (int k = MOST - 1; k >= 0; k--) {
                figures[k] = figure;
                figure *= FIGURES;
            }
        }

        void clear() {
            counts[0] = 0;
            counts[1] = 0;
        }

        boolean isFull(int side) {
            return counts[side] >= MOST;
        }

        boolean has(int line) {
            return line >= 0 && line < counts[0];
        }

        int add(int side, int number, int day, int weight) {
            int line = counts[side];
            numbers[side][line] = number;
            days[side][line] = day;
            grams[side][line] = weight;
            counts[side]++;
            return line;
        }

        int mateOf(int line) {
            return mates[line];
        }

        private int cost(int a, int b) {
            int unlike = numbers[0][a] == numbers[1][b] ? 0 : 20;
            int apart = Math.min(10, Math.abs(days[0][a] - days[1][b]));
            int differ = Math.min(20, Math.abs(grams[0][a] - grams[1][b]) / 100);
            return unlike + apart + differ;
        }

        /**
         * What a LINE of side 0 adds in a column, if all of side 1 cost as in none at first. The
         * mates are figures behind it, that of the first LINE the highest, none the greatest: so
         * the least sum is also the first of several.
         */
        private long weightOf(int line, int column) {
            if (column < counts[1]) {
                return (cost(line, column) - ALONE) * SCALE + column * figures[line];
            }
            return ALONE * SCALE + MOST * figures[line];
        }

        /** Puts side 0's LINES to columns one by one, each time at the least sum (Hungarian). */
        void joinLines() {
            int columns = counts[0] + counts[1];
            for (int column = 0; column <= columns && column <= COLUMNS; column++) {
                columnWorth[column] = 0;
                rowOf[column] = 0;
            }
            for (int row = 1; row <= counts[0]; row++) {
                rowWorth[row] = 0;
                shift(putIn(row, columns), columns);
            }
            for (int line = 0; line < counts[0]; line++) {
                mates[line] = NONE;
            }
            for (int column = 1; column <= counts[1]; column++) {
                if (rowOf[column] > 0) {
                    mates[rowOf[column] - 1] = column - 1;
                }
            }
        }

        /** Finds the free column in which the chain of moves that a new row begins ends cheapest. */
        private int putIn(int row, int columns) {
            for (int column = 0; column <= columns; column++) {
                slack[column] = FAR;
                isSeen[column] = false;
            }
            rowOf[0] = row;
            int at = 0;
            for (int k = 0; k <= columns && rowOf[at] != 0; k++) {
                isSeen[at] = true;
                int nearest = nearestFrom(at, columns);
                long step = slack[nearest];
                for (int column = 0; column <= columns; column++) {
                    if (isSeen[column]) {
                        rowWorth[rowOf[column]] += step;
                        columnWorth[column] -= step;
                    } else {
                        slack[column] -= step;
                    }
                }
                at = nearest;
            }
            return at;
        }

        private int nearestFrom(int at, int columns) {
            int nearest = 0;
            int row = rowOf[at];
            long least = FAR;
            for (int column = 1; column <= columns; column++) {
                if (isSeen[column]) {
                    continue;
                }
                long more = weightOf(row - 1, column - 1) - rowWorth[row] - columnWorth[column];
                if (more < slack[column]) {
                    slack[column] = more;
                    cameFrom[column] = at;
                }
                if (slack[column] < least) {
                    least = slack[column];
                    nearest = column;
                }
            }
            return nearest;
        }

        private void shift(int end, int columns) {
            int at = end;
            for (int k = 0; k <= columns && at != 0; k++) {
                rowOf[at] = rowOf[cameFrom[at]];
                at = cameFrom[at];
            }
        }

        int joinedCost() {
            int all = ALONE * (counts[0] + counts[1]);
            for (int line = 0; line < counts[0]; line++) {
                if (mates[line] != NONE) {
                    all += cost(line, mates[line]) - 2 * ALONE;
                }
            }
            return all;
        }

        int leanOfPairs() {
            int lean = 0;
            for (int line = 0; line < counts[0]; line++) {
                if (mates[line] != NONE) {
                    lean += grams[0][line] - grams[1][mates[line]];
                }
            }
            return lean;
        }

        int leanOfAll() {
            int lean = 0;
            for (int side = 0; side < SIDES; side++) {
                for (int line = 0; line < counts[side]; line++) {
                    lean += side == 0 ? grams[side][line] : -grams[side][line];
                }
            }
            return lean;
        }
    }

    /** The CASES that panels have judged, and the weights of their features. */
    private static final class Cases {
        private static final int MOST = 20;
        private static final int FEATURES = 6;

        private int count;
        private final int[] features = new int[MOST];
        private final int[] rulings = new int[MOST];
        private final int[] weights = new int[FEATURES];

        private Cases() {
            for (int k = 0; k < FEATURES; k++) {
                weights[k] = 1;
            }
        }

        void setWeight(int feature, int weight) {
            weights[feature] = weight;
        }

        boolean isFull() {
            return count >= MOST;
        }

        int add(int all, int ruling) {
            features[count] = all;
            rulings[count] = ruling;
            count++;
            return count - 1;
        }

        int nearestRuling(int all) {
            int ruling = NONE;
            int least = Integer.MAX_VALUE;
            for (int k = 0; k < count; k++) {
                int far = distance(features[k], all);
                if (far <= least) {
                    least = far;
                    ruling = rulings[k];
                }
            }
            return ruling;
        }

        private int distance(int a, int b) {
            int far = 0;
            int restOfA = a;
            int restOfB = b;
            for (int k = 0; k < FEATURES; k++) {
                far += weights[k] * Math.abs(restOfA % 10 - restOfB % 10);
                restOfA /= 10;
                restOfB /= 10;
            }
            return far;
        }
    }
}
