/** Promises 24, 25, and 27 to 29. */
public final class WaysTest {
    public static void main(String[] args) {
        wrongInputs();
        best();
        atMostThreeBetween();
        order();
        charges();
        remail();
        Check.end("WaysTest");
    }

    private static void wrongInputs() {
        PostUnion x = Check.union(3);
        x.road(0, 1, 1, 1);
        x.road(1, 2, 1, 1);
        int[][] bad = {{0, 0, 0, 1, 1, 0}, {3, 0, 0, 1, 1, 0}, {0, -1, 0, 1, 1, 0}, {0, 1, 4, 1, 1, 0}, {0, 1, 0, 0, 1, 0}, {0, 1, 0, 1_000_000_001, 1, 0},
            {0, 1, 0, 1, 0, 0}, {0, 1, 0, 1, 1_000_001, 0}, {0, 1, 0, 1, 1, -1}, {0, 1, 0, 1, 1, 10_000}};
        for (int[] b : bad) {
            Check.none(24, "price", x, x.price(b[0], b[1], b[2], b[3], b[4], b[5]), 1);
            Check.none(25, "way", x, x.way(b[0], b[1], b[2], b[3], b[4], b[5], 0), 1);
            Check.none(27, "remailed", x, x.remailed(b[0], b[1], b[2], b[3], b[4], b[5]), 1);
            Check.none(28, "remailer", x, x.remailer(b[0], b[1], b[2], b[3], b[4], b[5]), 1);
            Check.none(29, "gain", x, x.gain(b[0], b[1], b[2], b[3], b[4], b[5]), 1);
        }
        Check.none(25, "what", x, x.way(0, 1, 0, 1, 1, 0, -1), 1);
        Check.none(25, "what", x, x.way(0, 1, 0, 1, 1, 0, 7), 1);
    }

    private static void way(PostUnion x, int from, int to, int weight, int days, int... lands) {
        Check.gives(25, "LANDS", x, x.way(from, to, 0, weight, 1, 0, 0), lands.length);
        Check.gives(25, "DAYS", x, x.way(from, to, 0, weight, 1, 0, 1), days);
        for (int k = 0; k < 5; k++) {
            if (k < lands.length) {
                Check.gives(25, "LAND " + k, x, x.way(from, to, 0, weight, 1, 0, 2 + k), lands[k]);
            } else {
                Check.none(25, "LAND " + k, x, x.way(from, to, 0, weight, 1, 0, 2 + k), 6);
            }
        }
    }

    private static void best() {
        PostUnion x = Check.union(3);
        Check.none(24, "no WAY", x, x.price(0, 2, 0, 1, 1, 0), 6);
        Check.none(25, "no WAY", x, x.way(0, 2, 0, 1, 1, 0, 0), 6);
        x.road(0, 2, 1, 1000);
        x.road(0, 1, 30, 1);
        x.road(1, 2, 30, 1);
        way(x, 0, 2, 5_000, 60, 0, 1, 2);
        Check.gives(24, "the cheaper WAY", x, x.price(0, 2, 0, 5_000, 1, 0), 10);
        Check.gives(24, "each ROAD is rounded by itself", x, x.price(0, 2, 0, 999, 1, 0), 0);
        way(x, 0, 2, 999, 60, 0, 1, 2);
        Check.gives(24, "both cost 0", x, x.price(0, 2, 0, 1, 1, 0), 0);
        x.road(0, 2, 1, 900);
        way(x, 0, 2, 1, 1, 0, 2);
        Check.gives(24, "much", x, x.price(0, 2, 3, 1_000_000_000, 1_000_000, 9_999), 2_000_000);
    }

    private static void atMostThreeBetween() {
        PostUnion x = Check.union(7);
        for (int k = 0; k < 6; k++) {
            x.road(k, k + 1, 2, 10);
        }
        way(x, 0, 4, 1000, 8, 0, 1, 2, 3, 4);
        way(x, 5, 1, 1000, 8, 5, 4, 3, 2, 1);
        Check.none(24, "four between", x, x.price(0, 5, 0, 1, 1, 0), 6);
        x.road(0, 6, 60, 10_000);
        way(x, 0, 5, 1000, 62, 0, 6, 5);
    }

    private static void order() {
        PostUnion x = Check.union(5);
        x.road(0, 3, 2, 1);
        x.road(3, 4, 2, 1);
        x.road(0, 2, 3, 1);
        x.road(2, 4, 1, 1);
        way(x, 0, 4, 1, 4, 0, 2, 4);
        x.road(0, 4, 4, 1);
        way(x, 0, 4, 1, 4, 0, 2, 4);
        x.road(0, 3, 1, 1);
        way(x, 0, 4, 1, 3, 0, 3, 4);
        x.road(0, 4, 3, 0);
        way(x, 4, 0, 1, 3, 4, 0);
        way(x, 0, 4, 1, 3, 0, 3, 4);
    }

    private static void charges() {
        PostUnion x = Check.union(4);
        x.road(0, 1, 1, 0);
        x.road(1, 3, 1, 0);
        x.road(0, 2, 1, 0);
        x.road(2, 3, 1, 0);
        x.road(0, 3, 9, 0);
        x.road(1, 2, 1, 0);
        Check.treaty(x, "a:due when thirds=0 gives 100;b:due gives 50/thirds;c:third gives 10*via+thirds;", 0);
        Check.gives(24, "due 25, thirds 12 and 22", x, x.price(0, 3, 0, 1, 1, 0), 59);
        way(x, 0, 3, 1, 3, 0, 1, 2, 3);
        x.reserve(0, 0, 2, 10, true);
        Check.gives(24, "no THIRDS from that DAY on", x, x.price(0, 3, 0, 1, 1, 10), 25);
        Check.gives(24, "other LANDS owe them", x, x.price(3, 0, 0, 1, 1, 10), 59);
        x.reserve(3, 0, 1, 20, true);
        Check.gives(24, "no DUE by b", x, x.price(0, 3, 0, 1, 1, 20), 0);
        Check.gives(25, "fewest DAYS", x, x.way(0, 3, 0, 1, 1, 20, 0), 3);
        Check.gives(25, "the lesser", x, x.way(0, 3, 0, 1, 1, 20, 3), 1);
    }

    private static void remail() {
        PostUnion x = Check.union(5);
        Check.none(27, "no LAND for that", x, x.remailed(0, 1, 0, 1, 1, 0), 6);
        Check.none(28, "no LAND for that", x, x.remailer(0, 1, 0, 1, 1, 0), 6);
        Check.none(29, "no LAND for that", x, x.gain(0, 1, 0, 1, 1, 0), 6);
        x.road(0, 1, 1, 10);
        Check.none(29, "a WAY, but no LAND for that", x, x.gain(0, 1, 0, 1, 1, 0), 6);
        x.road(0, 2, 1, 10);
        x.road(2, 1, 1, 10);
        x.road(0, 3, 1, 10);
        x.road(3, 1, 1, 10);
        Check.treaty(x, "a:due from 0 gives 1000;b:due from 2,3 gives 100;c:third gives 0;", 0);
        Check.gives(24, "its own", x, x.price(0, 1, 0, 1000, 1, 0), 1010);
        Check.gives(27, "remailed", x, x.remailed(0, 1, 0, 1000, 1, 0), 120);
        Check.gives(28, "of several the lesser", x, x.remailer(0, 1, 0, 1000, 1, 0), 2);
        Check.gives(29, "gain", x, x.gain(0, 1, 0, 1000, 1, 0), 890);
        x.road(0, 2, 1, 11);
        Check.gives(28, "the cheaper", x, x.remailer(0, 1, 0, 1000, 1, 0), 3);
        Check.none(29, "no WAY", x, x.gain(4, 1, 0, 1000, 1, 0), 6);
        PostUnion y = Check.union(3);
        y.road(0, 1, 1, 0);
        y.road(0, 2, 1, 1);
        Check.gives(27, "over the same ROAD twice", y, y.remailed(0, 1, 0, 1000, 1, 0), 2);
        Check.gives(29, "-2", y, y.gain(0, 1, 0, 1000, 1, 0), -2);
        y.road(0, 2, 1, 0);
        Check.treaty(y, "a:due from 2 gives 1;", 0);
        Check.gives(29, "-1 itself", y, y.gain(0, 1, 0, 1000, 1, 0), -1);
        carriedOverAny();
    }

    private static void carriedOverAny() {
        PostUnion x = Check.union(7);
        for (int k = 0; k < 6; k++) {
            x.road(k, k + 1, 1, 1);
        }
        Check.none(24, "too far for a WAY", x, x.price(0, 6, 0, 500, 1, 0), 6);
        Check.gives(27, "letters are CARRIED as far as need be", x, x.remailed(0, 6, 0, 500, 1, 0), 1);
        Check.gives(28, "CARRIED is rounded once", x, x.remailer(0, 6, 0, 500, 1, 0), 2);
        Check.none(29, "no WAY", x, x.gain(0, 6, 0, 500, 1, 0), 6);
        x.road(1, 2, 1, 7);
        Check.gives(27, "4.5 and 0, 0", x, x.remailed(0, 6, 0, 500, 1, 0), 4);
        Check.treaty(x, "a:due from 2,3 gives 1;", 0);
        Check.gives(27, "by 4: 5 and 0", x, x.remailed(0, 6, 0, 500, 1, 0), 5);
        Check.gives(28, "2 and 3 cost 5, too", x, x.remailer(0, 6, 0, 500, 1, 0), 2);
    }
}
