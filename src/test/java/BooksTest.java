/** Promises 50 to 58, and 3 and 4. */
public final class BooksTest {
    public static void main(String[] args) {
        lines();
        costs();
        joins();
        ties();
        unlikeSides();
        full();
        interest();
        cases();
        Check.end("BooksTest");
    }

    private static void lines() {
        PostUnion x = new PostUnion();
        int[][] bad = {{-1, 0, 0, 0}, {2, 0, 0, 0}, {0, -1, 0, 0}, {0, 10_000, 0, 0}, {0, 0, -1, 0}, {0, 0, 10_000, 0}, {0, 0, 0, -1}, {0, 0, 0, 1_000_001}};
        for (int[] b : bad) {
            Check.none(50, "line", x, x.line(b[0], b[1], b[2], b[3]), 1);
        }
        for (int k = 0; k < 12; k++) {
            Check.gives(50, "line of side 0", x, x.line(0, 9_999, 9_999, 1_000_000), k);
        }
        Check.none(50, "a 13th", x, x.line(0, 0, 0, 0), 4);
        Check.gives(50, "the other side", x, x.line(1, 0, 0, 0), 0);
        Check.gives(54, "much", x, x.leans(0) + x.leans(1), 12_000_000);
        Check.yes(51, "close", x, x.close());
        Check.gives(51, "gone", x, x.join(), 0);
        Check.none(51, "gone", x, x.mate(0), 1);
        Check.gives(51, "a new first one", x, x.line(0, 0, 0, 0), 0);
        Check.gives(51, "of both sides", x, x.line(1, 0, 0, 0), 0);
    }

    private static void cost(int want, int number, int day, int grams) {
        PostUnion x = new PostUnion();
        x.line(0, 5, 100, 10_000);
        x.line(1, number, day, grams);
        Check.gives(52, "COST", x, x.join(), want);
        Check.gives(53, "its mate", x, x.mate(0), 0);
        Check.gives(54, "LEANS", x, x.leans(0), 10_000 - grams);
        Check.gives(54, "LEANS of none", x, x.leans(1), 0);
        PostUnion y = new PostUnion();
        y.line(0, number, day, grams);
        y.line(1, 5, 100, 10_000);
        Check.gives(52, "COST the other way", y, y.join(), want);
    }

    private static void costs() {
        cost(0, 5, 100, 10_000);
        cost(20, 6, 100, 10_000);
        cost(9, 5, 109, 10_000);
        cost(10, 5, 90, 10_000);
        cost(10, 5, 89, 10_000);
        cost(0, 5, 100, 10_099);
        cost(1, 5, 100, 9_900);
        cost(19, 5, 100, 8_001);
        cost(20, 5, 100, 12_000);
        cost(20, 5, 100, 1_000_000);
        cost(30, 5, 5_000, 0);
        cost(50, 9_999, 9_999, 0);
    }

    private static void joins() {
        PostUnion x = new PostUnion();
        Check.gives(52, "none", x, x.join(), 0);
        Check.gives(54, "none", x, x.leans(0), 0);
        Check.none(53, "no LINE", x, x.mate(0), 1);
        Check.none(53, "no LINE", x, x.mate(-1), 1);
        Check.none(54, "what", x, x.leans(2), 1);
        Check.none(54, "what", x, x.leans(-1), 1);
        x.line(1, 1, 0, 7);
        Check.gives(52, "one alone", x, x.join(), 25);
        Check.gives(54, "of side 1", x, x.leans(1), -7);
        x.line(0, 1, 0, 6);
        Check.gives(54, "-1 itself", x, x.leans(0), -1);
        x.line(0, 1, 5, 7);
        Check.gives(52, "one pair", x, x.join(), 25);
        Check.gives(53, "the nearer", x, x.mate(0), 0);
        Check.none(53, "in none", x, x.mate(1), 6);
        Check.gives(54, "in none", x, x.leans(1), 7);
        x.close();
        x.line(0, 1, 100, 0);
        x.line(0, 1, 104, 0);
        x.line(1, 1, 103, 0);
        x.line(1, 1, 108, 0);
        Check.gives(52, "together, not one by one", x, x.join(), 7);
        Check.gives(53, "together", x, x.mate(0), 0);
        Check.gives(53, "together", x, x.mate(1), 1);
    }

    private static void ties() {
        PostUnion x = new PostUnion();
        for (int k = 0; k < 3; k++) {
            x.line(0, 1, 1, 1);
            x.line(1, 1, 1, 1);
        }
        x.line(1, 1, 1, 1);
        Check.gives(52, "all alike", x, x.join(), 25);
        for (int k = 0; k < 3; k++) {
            Check.gives(53, "the lesser", x, x.mate(k), k);
        }
        x.close();
        x.line(0, 1, 10, 0);
        x.line(0, 1, 14, 0);
        x.line(1, 1, 16, 0);
        x.line(1, 1, 12, 0);
        Check.gives(52, "2 and 2, not 6 and 2", x, x.join(), 4);
        Check.gives(53, "crossed is less", x, x.mate(0), 1);
        x.close();
        x.line(0, 1, 10, 0);
        x.line(0, 1, 10, 0);
        x.line(1, 1, 12, 0);
        x.line(1, 1, 13, 0);
        Check.gives(52, "5 either way", x, x.join(), 5);
        Check.gives(53, "the lesser to the first", x, x.mate(0), 0);
        x.close();
        x.line(0, 1, 10, 0);
        x.line(1, 2, 100, 9_000);
        x.line(0, 2, 100, 9_000);
        x.line(1, 1, 10, 0);
        Check.gives(52, "crossed", x, x.join(), 0);
        Check.gives(53, "crossed", x, x.mate(0), 1);
        x.close();
        x.line(0, 1, 0, 0);
        x.line(0, 1, 0, 0);
        x.line(1, 2, 50, 9_000);
        Check.gives(52, "50 as a pair, too", x, x.join(), 75);
        Check.gives(53, "none stands behind all", x, x.mate(0), 0);
        Check.none(53, "the other has none", x, x.mate(1), 6);
    }

    private static void unlikeSides() {
        for (int side = 0; side < 2; side++) {
            PostUnion x = new PostUnion();
            for (int k = 0; k < 12; k++) {
                x.line(side, 50 + k, 10, 0);
            }
            x.line(1 - side, 61, 10, 0);
            x.line(1 - side, 50, 10, 0);
            x.line(1 - side, 1, 10, 0);
            Check.gives(52, "12 and 3: two alike, one by 20", x, x.join(), 9 * 25 + 20);
            int[] want = side == 0 ? new int[] {1, 2} : new int[] {11, 0, 1};
            for (int k = 0; k < want.length; k++) {
                Check.gives(53, "12 and 3", x, x.mate(k), want[k]);
            }
            if (side == 0) {
                Check.gives(53, "the last one", x, x.mate(11), 0);
                Check.none(53, "one between", x, x.mate(10), 6);
            }
        }
    }

    private static void full() {
        PostUnion x = new PostUnion();
        for (int k = 0; k < 12; k++) {
            x.line(0, k, k, 100 * k);
            x.line(1, 11 - k, 11 - k, 1_100 - 100 * k);
        }
        Check.gives(52, "12 pairs", x, x.join(), 0);
        for (int k = 0; k < 12; k++) {
            Check.gives(53, "12 pairs", x, x.mate(k), 11 - k);
        }
        x.close();
        for (int k = 0; k < 12; k++) {
            x.line(0, k, 0, 0);
            x.line(1, 100 + k, 500, 9_000);
        }
        Check.gives(52, "12 pairs of 50", x, x.join(), 600);
        for (int k = 0; k < 12; k++) {
            Check.gives(53, "12 pairs of 50", x, x.mate(k), k);
        }
        Check.gives(54, "12 pairs of 50", x, x.leans(0), -108_000);
        Check.gives(54, "none", x, x.leans(1), 0);
    }

    private static void fraction(PostUnion x, long top, long bottom) {
        Check.is(3, "top", x.top(), top);
        Check.is(4, "bottom", x.bottom(), bottom);
    }

    private static void interest() {
        PostUnion x = new PostUnion();
        Check.gives(55, "interest", x, x.interest(1_000_000_000, 1_000, 10_000), 1);
        fraction(x, 2_000_000_000_000L, 73);
        int[][] bad = {{-1, 0, 0}, {1_000_000_001, 0, 0}, {0, -1, 0}, {0, 1_001, 0}, {0, 0, -1}, {0, 0, 10_001}};
        for (int[] b : bad) {
            Check.none(55, "interest", x, x.interest(b[0], b[1], b[2]), 1);
            fraction(x, 2_000_000_000_000L, 73);
        }
        Check.gives(55, "of 0", x, x.interest(0, 1_000, 10_000), 0);
        fraction(x, 0, 1);
        Check.gives(55, "of a year", x, x.interest(7_000, 3, 365), 1);
        fraction(x, 21, 1);
        Check.gives(55, "at no rate", x, x.interest(7_000, 0, 365), 0);
        fraction(x, 0, 1);
        Check.gives(55, "least", x, x.interest(1, 1, 1), 1);
        fraction(x, 1, 365_000);
        Check.gives(55, "none late", x, x.interest(1, 1, 0), 0);
        fraction(x, 0, 1);
        Check.gives(55, "primes", x, x.interest(999_999_937, 997, 9_973), 1);
        fraction(x, 999_999_937L * 997 * 9_973, 365_000);
    }

    private static void cases() {
        PostUnion x = new PostUnion();
        Check.none(58, "no CASE", x, x.judge(0), 6);
        Check.none(58, "features", x, x.judge(-1), 1);
        Check.none(58, "features", x, x.judge(1_000_000), 1);
        Check.none(57, "features", x, x.rule(-1, 0), 1);
        Check.none(57, "features", x, x.rule(1_000_000, 0), 1);
        Check.none(57, "ruling", x, x.rule(0, -1), 1);
        Check.none(57, "ruling", x, x.rule(0, 10), 1);
        Check.no(56, "feature", x, x.weigh(-1, 1), 1);
        Check.no(56, "feature", x, x.weigh(6, 1), 1);
        Check.no(56, "weight", x, x.weigh(0, -1), 1);
        Check.no(56, "weight", x, x.weigh(0, 10), 1);
        Check.gives(57, "rule", x, x.rule(0, 9), 0);
        Check.gives(58, "the only one", x, x.judge(999_999), 9);
        Check.gives(57, "rule", x, x.rule(900_000, 0), 1);
        Check.gives(58, "nearer", x, x.judge(400_000), 9);
        Check.gives(58, "nearer", x, x.judge(500_000), 0);
        Check.gives(57, "rule", x, x.rule(900_009, 7), 2);
        Check.gives(58, "feature 0", x, x.judge(900_005), 7);
        Check.gives(58, "feature 0", x, x.judge(900_004), 0);
        Check.yes(56, "feature 5 weighs nothing", x, x.weigh(5, 0));
        Check.gives(58, "it is not looked at", x, x.judge(900_004), 0);
        Check.gives(57, "rule", x, x.rule(4, 5), 3);
        Check.gives(58, "feature 5 is not looked at", x, x.judge(900_004), 5);
        Check.yes(56, "feature 5 weighs much", x, x.weigh(5, 9));
        Check.gives(58, "feature 5 counts", x, x.judge(900_004), 0);
        Check.yes(56, "feature 0 weighs nothing", x, x.weigh(0, 0));
        Check.gives(58, "of like ones the latest", x, x.judge(900_004), 7);
        Check.gives(57, "the highest features", x, x.rule(999_999, 2), 4);
        for (int k = 5; k < 20; k++) {
            Check.gives(57, "rule", x, x.rule(111_111, k % 10), k);
        }
        Check.none(57, "a 21st", x, x.rule(0, 0), 4);
        Check.none(57, "what can't be comes first", x, x.rule(0, 10), 1);
        Check.gives(58, "of like ones the latest", x, x.judge(111_111), 9);
    }
}
