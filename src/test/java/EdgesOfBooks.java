import java.util.Random;

/** Promises 50 to 58, and what the terms say of BOOKS, INTEREST and CASES. */
final class EdgesOfBooks {
    private static final int LEAST = Integer.MIN_VALUE;
    private static final int MOST = Integer.MAX_VALUE;

    private EdgesOfBooks() {
    }

    static void run() {
        bookTerms();
        costTerms();
        joinedTerms();
        interestTerms();
        caseTerms();
        line();
        join();
        mate();
        leans();
        interest();
        cases();
    }

    private static void bookTerms() {
        Edge.of(0, "BOOKS of two sides (0, 1), at most 12 LINES each", () -> {
            PostUnion x = new PostUnion();
            for (int side = 0; side < 2; side++) {
                for (int k = 0; k < 12; k++) {
                    Edge.gives(x, x.line(side, k, 0, 0), k);
                }
                Edge.none(x, x.line(side, 0, 0, 0), 4);
            }
            for (int side : new int[] {-1, 2, LEAST, MOST}) {
                Edge.none(x, x.line(side, 0, 0, 0), 1);
            }
        });
        Edge.of(0, "a number (0 to 9,999), a DAY", () -> {
            PostUnion x = new PostUnion();
            Edge.gives(x, x.line(0, 0, 0, 0), 0);
            Edge.gives(x, x.line(0, 9_999, 9_999, 0), 1);
            for (int number : new int[] {-1, 10_000, LEAST, MOST}) {
                Edge.none(x, x.line(0, number, 0, 0), 1);
            }
        });
        Edge.of(0, "grams (0 to 1,000,000).", () -> {
            PostUnion x = new PostUnion();
            Edge.gives(x, x.line(0, 0, 0, 0), 0);
            Edge.gives(x, x.line(0, 0, 0, 1_000_000), 1);
            for (int grams : new int[] {-1, 1_000_001, LEAST, MOST}) {
                Edge.none(x, x.line(0, 0, 0, grams), 1);
            }
            Edge.gives(x, x.leans(1), 1_000_000);
        });
    }

    /** COST of a LINE (5, 100, 10,000) and another one, and of both the other way round. */
    private static void cost(int number, int day, int grams, int want) {
        for (int side = 0; side < 2; side++) {
            PostUnion x = new PostUnion();
            x.line(side, 5, 100, 10_000);
            x.line(1 - side, number, day, grams);
            Edge.gives(x, x.join(), want);
        }
    }

    private static void costTerms() {
        Edge.of(0, "COST of two LINES: 0 for the same number, else 20", () -> {
            cost(5, 100, 10_000, 0);
            cost(4, 100, 10_000, 20);
            cost(6, 100, 10_000, 20);
            cost(9_999, 100, 10_000, 20);
        });
        Edge.of(0, "as many as the DAYS are apart, 10 at most", () -> {
            cost(5, 101, 10_000, 1);
            cost(5, 91, 10_000, 9);
            cost(5, 110, 10_000, 10);
            cost(5, 89, 10_000, 10);
            cost(5, 9_999, 10_000, 10);
        });
        Edge.of(0, "and the difference of grams by 100, rounded down, 20 at most.", () -> {
            cost(5, 100, 10_099, 0);
            cost(5, 100, 9_901, 0);
            cost(5, 100, 9_900, 1);
            cost(5, 100, 11_999, 19);
            cost(5, 100, 8_000, 20);
            cost(5, 100, 12_100, 20);
            cost(5, 100, 1_000_000, 20);
        });
    }

    /** Drawn LINES, of which each way of joining them is tried, the first ones ahead. */
    private static final class Drawn {
        private final PostUnion x;
        private final int[][][] lines = new int[2][][];
        private final int[] tried;
        private int[] best;
        private int least = MOST;

        Drawn(PostUnion x, Random random, int many, int others) {
            this.x = x;
            x.close();
            lines[0] = new int[many][];
            lines[1] = new int[others][];
            for (int side = 0; side < 2; side++) {
                for (int k = 0; k < lines[side].length; k++) {
                    int[] line = {random.nextInt(2), 4 * random.nextInt(4), 500 * random.nextInt(3) + 50 * random.nextInt(3)};
                    lines[side][k] = line;
                    x.line(side, line[0], line[1], line[2]);
                }
            }
            tried = new int[many];
            best = new int[many];
        }

        private int cost(int[] a, int[] b) {
            return (a[0] == b[0] ? 0 : 20) + Math.min(10, Math.abs(a[1] - b[1])) + Math.min(20, Math.abs(a[2] - b[2]) / 100);
        }

        private void go(int line, int used, int cost) {
            if (line == tried.length) {
                int all = cost + 25 * (lines[1].length - Integer.bitCount(used));
                if (all < least) {
                    least = all;
                    best = tried.clone();
                }
                return;
            }
            for (int mate = 0; mate < lines[1].length; mate++) {
                if ((used >> mate & 1) == 0) {
                    tried[line] = mate;
                    go(line + 1, used | 1 << mate, cost + cost(lines[0][line], lines[1][mate]));
                }
            }
            tried[line] = -1;
            go(line + 1, used, cost + 25);
        }

        void compare() {
            go(0, 0, 0);
            Edge.gives(x, x.join(), least);
            for (int line = 0; line < best.length; line++) {
                long mate = x.mate(line);
                Edge.is("a mate of " + best.length + " and " + lines[1].length, mate, best[line]);
                Edge.is("its STATUS", x.status(), mate < 0 ? 6 : 0);
            }
        }
    }

    private static void joinedTerms() {
        Edge.of(0, "JOINED are LINES of both sides, each in one pair at most", () -> {
            PostUnion x = new PostUnion();
            x.line(0, 1, 0, 0);
            x.line(0, 1, 0, 0);
            x.line(1, 1, 0, 0);
            Edge.gives(x, x.join(), 25);
            Edge.gives(x, x.mate(0), 0);
            Edge.none(x, x.mate(1), 6);
            x.line(1, 1, 0, 0);
            Edge.gives(x, x.join(), 0);
            Edge.gives(x, x.mate(1), 1);
        });
        Edge.of(0, "so that COST of all pairs and 25 for each LINE in none are least together", () -> {
            PostUnion x = new PostUnion();
            Edge.gives(x, x.join(), 0);
            x.line(0, 1, 100, 0);
            x.line(0, 1, 104, 0);
            Edge.gives(x, x.join(), 50);
            x.line(1, 1, 103, 0);
            x.line(1, 1, 108, 0);
            Edge.gives(x, x.join(), 7);
            Edge.gives(x, x.mate(0), 0);
            x.close();
            x.line(0, 1, 0, 0);
            x.line(0, 2, 0, 0);
            x.line(1, 2, 0, 0);
            x.line(1, 3, 99, 2_000);
            Edge.gives(x, x.join(), 50);
        });
        Edge.of(0, "so that COST of all pairs and 25 for each LINE in none are least together", () -> {
            PostUnion x = new PostUnion();
            for (int k = 0; k < 12; k++) {
                x.line(0, k, 0, 0);
                x.line(1, 11 - k, 0, 0);
            }
            Edge.gives(x, x.join(), 0);
            Edge.gives(x, x.mate(0), 11);
            Edge.gives(x, x.mate(11), 0);
        });
        Edge.of(0, "of several the first: by side 0's LINES the lesser LINE of side 1", () -> {
            PostUnion x = new PostUnion();
            for (int k = 0; k < 12; k++) {
                x.line(0, 7, 7, 7);
                x.line(1, 7, 7, 7);
            }
            Edge.gives(x, x.join(), 0);
            for (int k = 0; k < 12; k++) {
                Edge.gives(x, x.mate(k), k);
            }
            x.close();
            x.line(0, 1, 10, 0);
            x.line(0, 1, 11, 0);
            x.line(1, 1, 12, 0);
            x.line(1, 1, 13, 0);
            Edge.gives(x, x.join(), 4);
            Edge.gives(x, x.mate(0), 0);
        });
        Edge.of(0, "of several the first: by side 0's LINES the lesser LINE of side 1", () -> {
            PostUnion x = new PostUnion();
            int[] grams = {100, 0, 0, 200};
            for (int k = 0; k < 4; k++) {
                x.line(0, k == 2 ? 2 : 1, 0, grams[k]);
            }
            x.line(1, 1, 0, 10);
            x.line(1, 1, 0, 190);
            x.line(1, 2, 0, 0);
            Edge.gives(x, x.join(), 25);
            Edge.gives(x, x.mate(0), 0);
            Edge.none(x, x.mate(1), 6);
            Edge.gives(x, x.mate(2), 2);
            Edge.gives(x, x.mate(3), 1);
        });
        Edge.of(0, "of several the first: by side 0's LINES the lesser LINE of side 1", () -> {
            Random random = new Random(11);
            for (int k = 0; k < 400; k++) {
                new Drawn(new PostUnion(), random, random.nextInt(6), random.nextInt(6)).compare();
            }
            for (int k = 0; k < 40; k++) {
                PostUnion x = new PostUnion();
                for (int again = 0; again < 12; again++) {
                    new Drawn(x, random, random.nextInt(6), random.nextInt(6)).compare();
                }
            }
        });
        Edge.of(0, "are least together; of several the first", () -> {
            PostUnion x = new PostUnion();
            for (int k = 0; k < 12; k++) {
                boolean isEnd = k == 0 || k == 11;
                x.line(0, isEnd ? 99 : k, 0, k == 0 ? 10 : 190);
                x.line(1, isEnd ? 99 : k, 0, k == 0 ? 200 : k == 11 ? 100 : 190);
            }
            Edge.gives(x, x.join(), 0);
            Edge.gives(x, x.mate(0), 11);
            Edge.gives(x, x.mate(11), 0);
        });
        Edge.of(0, "none behind all.", () -> {
            PostUnion x = new PostUnion();
            x.line(0, 1, 0, 0);
            x.line(1, 2, 10, 2_000);
            Edge.gives(x, x.join(), 50);
            Edge.gives(x, x.mate(0), 0);
            x.line(0, 1, 0, 0);
            Edge.gives(x, x.mate(0), 0);
            Edge.none(x, x.mate(1), 6);
            for (int k = 2; k < 12; k++) {
                x.line(0, 1, 0, 0);
            }
            Edge.gives(x, x.join(), 50 + 11 * 25);
            Edge.gives(x, x.mate(0), 0);
            Edge.none(x, x.mate(11), 6);
            x.close();
            x.line(0, 1, 0, 0);
            for (int k = 0; k < 11; k++) {
                x.line(1, 2, 10, 2_000);
            }
            Edge.gives(x, x.mate(0), 0);
            x.line(1, 2, 10, 1_999);
            Edge.gives(x, x.mate(0), 11);
        });
        Edge.of(0, "LEANS: grams of side 0's LINES less those of side 1's: of pairs, and of LINES in none.", () -> {
            PostUnion x = new PostUnion();
            x.line(0, 1, 0, 300);
            x.line(0, 2, 0, 5_000);
            x.line(1, 1, 0, 400);
            Edge.gives(x, x.leans(0), -100);
            Edge.gives(x, x.leans(1), 5_000);
            x.close();
            x.line(1, 1, 0, 1_000_000);
            Edge.gives(x, x.leans(0), 0);
            Edge.gives(x, x.leans(1), -1_000_000);
        });
    }

    private static void fraction(int sum, int rate, int late, long top, long bottom) {
        PostUnion x = new PostUnion();
        Edge.gives(x, x.interest(sum, rate, late), top > 0 ? 1 : 0);
        Edge.is("top", x.top(), top);
        Edge.is("bottom", x.bottom(), bottom);
    }

    private static void interestTerms() {
        Edge.of(0, "INTEREST of a sum (0 to 1,000,000,000) paid late", () -> {
            fraction(0, 1_000, 10_000, 0, 1);
            fraction(1_000_000_000, 1, 1, 200_000, 73);
            PostUnion x = new PostUnion();
            for (int sum : new int[] {-1, 1_000_000_001, LEAST, MOST}) {
                Edge.none(x, x.interest(sum, 1, 1), 1);
            }
        });
        Edge.of(0, "sum times rate (0 to 1,000, by 1,000 a year)", () -> {
            fraction(1_000, 0, 365, 0, 1);
            fraction(1_000, 1_000, 365, 1_000, 1);
            PostUnion x = new PostUnion();
            for (int rate : new int[] {-1, 1_001, LEAST, MOST}) {
                Edge.none(x, x.interest(1, rate, 1), 1);
            }
        });
        Edge.of(0, "times DAYS late, by 365,000: a FRACTION.", () -> {
            fraction(1, 1, 0, 0, 1);
            fraction(1, 1, 1, 1, 365_000);
            fraction(1_000_000_000, 1_000, 10_000, 2_000_000_000_000L, 73);
        });
        Edge.of(0, "FRACTIONS are told by top() and bottom() without a common divisor", () -> {
            fraction(2, 1, 1, 1, 182_500);
            fraction(5, 1, 1, 1, 73_000);
            fraction(73, 1, 1, 1, 5_000);
            fraction(3, 1, 1, 3, 365_000);
            fraction(999_999_937, 997, 9_973, 999_999_937L * 997 * 9_973, 365_000);
        });
        Edge.of(0, "0 is 0 by 1.", () -> {
            fraction(0, 0, 0, 0, 1);
            fraction(7, 7, 0, 0, 1);
            PostUnion x = new PostUnion();
            x.interest(1, 1, 1);
            x.interest(1, 0, 1);
            Edge.is(x.top(), 0);
            Edge.is(x.bottom(), 1);
        });
    }

    private static void caseTerms() {
        Edge.of(0, "CASES, at most 20", () -> {
            PostUnion x = new PostUnion();
            for (int k = 0; k < 20; k++) {
                Edge.gives(x, x.rule(k, k % 10), k);
            }
            Edge.none(x, x.rule(999_999, 1), 4);
            Edge.gives(x, x.judge(999_999), 9);
        });
        Edge.of(0, "six features, each 0 to 9, and a ruling (0 to 9)", () -> {
            PostUnion x = new PostUnion();
            Edge.gives(x, x.rule(0, 0), 0);
            Edge.gives(x, x.judge(999_999), 0);
            Edge.gives(x, x.rule(999_999, 9), 1);
            Edge.gives(x, x.judge(999_999), 9);
            Edge.gives(x, x.judge(0), 0);
            for (int ruling : new int[] {-1, 10, LEAST, MOST}) {
                Edge.none(x, x.rule(0, ruling), 1);
            }
        });
        Edge.of(0, "features have weights (0 to 9; 1 at first).", () -> {
            for (int feature = 0; feature < 6; feature++) {
                PostUnion x = new PostUnion();
                int one = (int) Math.round(Math.pow(10, feature));
                int other = feature == 0 ? 10 : 1;
                x.rule(2 * one, 3);
                x.rule(other, 4);
                Edge.gives(x, x.judge(0), 4);
                Edge.yes(x, x.weigh(feature, 0));
                Edge.gives(x, x.judge(0), 3);
                Edge.yes(x, x.weigh(feature, 9));
                Edge.gives(x, x.judge(0), 4);
                Edge.yes(x, x.weigh(feature == 0 ? 1 : 0, 9));
                Edge.gives(x, x.judge(0), 4);
                Edge.yes(x, x.weigh(feature, 4));
                Edge.gives(x, x.judge(0), 3);
                PostUnion y = new PostUnion();
                y.rule(other, 4);
                y.rule(one, 3);
                Edge.yes(y, y.weigh(feature == 0 ? 1 : 0, 1));
                Edge.gives(y, y.judge(0), 3);
            }
        });
        Edge.of(0, "NEAREST to six features: the CASE with the least sum of weight times the difference of each", () -> {
            PostUnion x = new PostUnion();
            x.rule(990_000, 1);
            x.rule(333_333, 2);
            Edge.gives(x, x.judge(1), 2);
            Edge.gives(x, x.judge(100_000), 2);
            Edge.gives(x, x.judge(500_000), 1);
            x.rule(800_009, 3);
            Edge.gives(x, x.judge(0), 3);
            Edge.gives(x, x.judge(999_999), 2);
        });
        Edge.of(0, "of several the one told latest.", () -> {
            PostUnion x = new PostUnion();
            for (int k = 0; k < 20; k++) {
                x.rule(k % 2 == 0 ? 100_000 : 1, k % 10);
                Edge.gives(x, x.judge(0), k % 10);
            }
            Edge.gives(x, x.judge(100_000), 8);
        });
    }

    private static void line() {
        Edge.of(50, "A LINE more of a side: its number", () -> {
            PostUnion x = new PostUnion();
            Edge.gives(x, x.line(1, 0, 0, 0), 0);
            Edge.gives(x, x.line(0, 0, 0, 0), 0);
            Edge.gives(x, x.line(1, 9_999, 9_999, 1_000_000), 1);
        });
        Edge.of(50, "(1, 4)", () -> {
            PostUnion x = new PostUnion();
            int[][] bad = {{-1, 0, 0, 0}, {2, 0, 0, 0}, {0, -1, 0, 0}, {0, 10_000, 0, 0}, {0, 0, -1, 0}, {0, 0, 10_000, 0}, {0, 0, 0, -1}, {0, 0, 0, 1_000_001}};
            for (int[] b : bad) {
                Edge.none(x, x.line(b[0], b[1], b[2], b[3]), 1);
            }
            Edge.gives(x, x.join(), 0);
        });
        Edge.of(50, "(1, 4)", () -> {
            PostUnion x = new PostUnion();
            for (int k = 0; k < 12; k++) {
                x.line(1, 0, 0, 0);
            }
            Edge.none(x, x.line(1, 0, 0, 0), 4);
            Edge.none(x, x.line(1, 10_000, 0, 0), 1);
            Edge.gives(x, x.join(), 300);
            Edge.gives(x, x.line(0, 0, 0, 0), 0);
        });
        Edge.of(51, "All LINES are gone.", () -> {
            PostUnion x = new PostUnion();
            Edge.yes(x, x.close());
            for (int k = 0; k < 12; k++) {
                x.line(0, k, 0, 5);
                x.line(1, k, 0, 6);
            }
            Edge.yes(x, x.close());
            Edge.gives(x, x.join(), 0);
            Edge.none(x, x.mate(0), 1);
            Edge.gives(x, x.leans(0), 0);
            Edge.gives(x, x.leans(1), 0);
            Edge.gives(x, x.line(0, 0, 0, 0), 0);
            Edge.gives(x, x.line(1, 0, 0, 0), 0);
        });
    }

    private static void join() {
        Edge.of(52, "COST of all that are JOINED, and 25 for each LINE in none.", () -> {
            PostUnion x = new PostUnion();
            Edge.gives(x, x.join(), 0);
            x.line(1, 1, 0, 0);
            Edge.gives(x, x.join(), 25);
            x.line(0, 2, 3, 400);
            Edge.gives(x, x.join(), 27);
            x.line(0, 1, 0, 0);
            Edge.gives(x, x.join(), 25);
        });
        Edge.of(52, "COST of all that are JOINED, and 25 for each LINE in none.", () -> {
            PostUnion x = new PostUnion();
            for (int k = 0; k < 12; k++) {
                x.line(0, 1, 0, 0);
            }
            Edge.gives(x, x.join(), 300);
            for (int k = 0; k < 12; k++) {
                x.line(1, 2, 99, 9_999);
            }
            Edge.gives(x, x.join(), 600);
        });
    }

    private static void mate() {
        Edge.of(53, "The LINE of side 1 of one of side 0, JOINED", () -> {
            PostUnion x = new PostUnion();
            x.line(0, 1, 0, 0);
            x.line(1, 2, 0, 0);
            x.line(1, 1, 0, 0);
            Edge.gives(x, x.mate(0), 1);
            x.line(0, 2, 0, 0);
            Edge.gives(x, x.mate(1), 0);
        });
        Edge.of(53, "(1, 6)", () -> {
            PostUnion x = new PostUnion();
            x.line(1, 1, 0, 0);
            Edge.none(x, x.mate(0), 1);
            x.line(0, 1, 0, 0);
            for (int line : new int[] {-1, 1, 12, LEAST, MOST}) {
                Edge.none(x, x.mate(line), 1);
            }
        });
        Edge.of(53, "(1, 6)", () -> {
            PostUnion x = new PostUnion();
            x.line(0, 1, 0, 0);
            Edge.none(x, x.mate(0), 6);
            x.line(1, 1, 0, 0);
            Edge.gives(x, x.mate(0), 0);
        });
    }

    private static void leans() {
        Edge.of(54, "LEANS, of pairs (what 0), of LINES in none (1); STATUS tells NONE from -1", () -> {
            PostUnion x = new PostUnion();
            x.line(1, 1, 0, 1);
            Edge.gives(x, x.leans(0), 0);
            Edge.gives(x, x.leans(1), -1);
            x.line(0, 1, 0, 0);
            Edge.gives(x, x.leans(0), -1);
            Edge.gives(x, x.leans(1), 0);
        });
        Edge.of(54, "LEANS, of pairs (what 0), of LINES in none (1)", () -> {
            PostUnion x = new PostUnion();
            for (int k = 0; k < 12; k++) {
                x.line(1, k, 0, 1_000_000);
            }
            Edge.gives(x, x.leans(1), -12_000_000);
            for (int k = 0; k < 12; k++) {
                x.line(0, k, 0, 0);
            }
            Edge.gives(x, x.leans(0), -12_000_000);
            Edge.gives(x, x.leans(1), 0);
        });
        Edge.of(54, "(1).", () -> {
            PostUnion x = new PostUnion();
            for (int what : new int[] {-1, 2, LEAST, MOST}) {
                Edge.none(x, x.leans(what), 1);
            }
        });
    }

    private static void interest() {
        Edge.of(55, "The FRACTION is INTEREST: 1 if it is above 0, else 0", () -> {
            PostUnion x = new PostUnion();
            Edge.gives(x, x.interest(1, 1, 1), 1);
            Edge.is(x.bottom(), 365_000);
            Edge.gives(x, x.interest(0, 1, 1), 0);
            Edge.gives(x, x.interest(1, 0, 1), 0);
            Edge.gives(x, x.interest(1, 1, 0), 0);
        });
        Edge.of(55, "(1: late 0 to 10,000)", () -> {
            PostUnion x = new PostUnion();
            Edge.gives(x, x.interest(1, 1, 10_000), 1);
            Edge.is(x.top(), 2);
            Edge.is(x.bottom(), 73);
            for (int late : new int[] {-1, 10_001, LEAST, MOST}) {
                Edge.none(x, x.interest(1, 1, late), 1);
            }
            Edge.none(x, x.interest(-1, 1, 1), 1);
            Edge.none(x, x.interest(1_000_000_001, 1, 1), 1);
            Edge.none(x, x.interest(1, -1, 1), 1);
            Edge.none(x, x.interest(1, 1_001, 1), 1);
            Edge.is(x.top(), 2);
            Edge.is(x.bottom(), 73);
        });
    }

    private static void cases() {
        Edge.of(56, "The weight of a feature (0 to 5)", () -> {
            PostUnion x = new PostUnion();
            x.rule(900_001, 1);
            x.rule(100_009, 2);
            Edge.gives(x, x.judge(0), 2);
            Edge.yes(x, x.weigh(0, 9));
            Edge.gives(x, x.judge(0), 1);
            Edge.yes(x, x.weigh(5, 9));
            Edge.gives(x, x.judge(0), 2);
            Edge.yes(x, x.weigh(5, 8));
            Edge.gives(x, x.judge(0), 1);
        });
        Edge.of(56, "(1)", () -> {
            PostUnion x = new PostUnion();
            for (int feature : new int[] {-1, 6, LEAST, MOST}) {
                Edge.no(x, x.weigh(feature, 1), 1);
            }
            for (int weight : new int[] {-1, 10, LEAST, MOST}) {
                Edge.no(x, x.weigh(0, weight), 1);
            }
        });
        Edge.of(57, "A CASE more, features as the six lowest figures of a number (the lowest feature 0; 0 to 999,999): its number", () -> {
            PostUnion x = new PostUnion();
            Edge.gives(x, x.rule(0, 1), 0);
            Edge.gives(x, x.rule(999_999, 2), 1);
            Edge.gives(x, x.rule(9, 3), 2);
            for (int features : new int[] {-1, 1_000_000, LEAST, MOST}) {
                Edge.none(x, x.rule(features, 0), 1);
            }
            x.weigh(0, 0);
            Edge.gives(x, x.judge(0), 3);
        });
        Edge.of(57, "(1, 4)", () -> {
            PostUnion x = new PostUnion();
            Edge.none(x, x.rule(0, -1), 1);
            Edge.none(x, x.rule(0, 10), 1);
            Edge.none(x, x.judge(0), 6);
        });
        Edge.of(57, "(1, 4)", () -> {
            PostUnion x = new PostUnion();
            for (int k = 0; k < 20; k++) {
                x.rule(5, 5);
            }
            Edge.none(x, x.rule(0, 9), 4);
            Edge.none(x, x.rule(0, 10), 1);
            Edge.none(x, x.rule(1_000_000, 9), 1);
            Edge.gives(x, x.judge(0), 5);
        });
        Edge.of(58, "The ruling of the NEAREST CASE", () -> {
            PostUnion x = new PostUnion();
            x.rule(444_444, 4);
            x.rule(555_555, 5);
            Edge.gives(x, x.judge(0), 4);
            Edge.gives(x, x.judge(999_999), 5);
            Edge.gives(x, x.judge(454_545), 5);
        });
        Edge.of(58, "(1, 6)", () -> {
            PostUnion x = new PostUnion();
            for (int features : new int[] {-1, 1_000_000, LEAST, MOST}) {
                Edge.none(x, x.judge(features), 1);
            }
        });
        Edge.of(58, "(1, 6)", () -> {
            PostUnion x = new PostUnion();
            Edge.none(x, x.judge(0), 6);
            x.rule(0, 0);
            Edge.gives(x, x.judge(0), 0);
        });
    }
}
