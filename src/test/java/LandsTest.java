/** Promises 10 to 13, 26, and 30 to 32. */
public final class LandsTest {
    public static void main(String[] args) {
        lands();
        gold();
        roads();
        carried();
        rates();
        Check.end("LandsTest");
    }

    private static void lands() {
        PostUnion x = new PostUnion();
        for (int k = 0; k < 7; k++) {
            Check.gives(10, "land", x, x.land(), k);
        }
        Check.none(10, "an 8th", x, x.land(), 4);
        Check.gives(10, "the last one", x, x.coins(6, 0, 1), 1);
        Check.none(10, "no 8th", x, x.coins(7, 0, 1), 1);
    }

    private static void gold() {
        PostUnion x = Check.union(2);
        int[][] bad = {{-1, 0, 1}, {2, 0, 1}, {0, -1, 1}, {0, 10_000, 1}, {0, 0, 0}, {0, 0, 1_000_001}};
        for (int[] b : bad) {
            Check.no(11, "gold", x, x.gold(b[0], b[1], b[2]), 1);
        }
        Check.yes(11, "gold", x, x.gold(0, 100, 1_000_000));
        Check.yes(11, "gold of an earlier DAY", x, x.gold(0, 50, 1));
        Check.gives(12, "without any", x, x.coins(0, 49, 777), 777);
        Check.gives(12, "on its DAY", x, x.coins(0, 50, 1999), 1);
        Check.gives(12, "the day ahead", x, x.coins(0, 99, 999), 0);
        Check.gives(12, "the latest DAY", x, x.coins(0, 9_999, 1_000_000_000_000L), 1_000_000_000_000_000L);
        Check.gives(12, "of another LAND", x, x.coins(1, 9_999, 5), 5);
        Check.yes(11, "told again", x, x.gold(0, 50, 3_000));
        Check.gives(12, "the later telling", x, x.coins(0, 50, 7), 21);
        Check.gives(12, "no gold", x, x.coins(0, 0, 0), 0);
        Check.none(12, "gold", x, x.coins(0, 0, -1), 1);
        Check.none(12, "gold", x, x.coins(0, 0, 1_000_000_000_001L), 1);
        Check.none(12, "day", x, x.coins(0, -1, 1), 1);
        Check.none(12, "day", x, x.coins(0, 10_000, 1), 1);
        for (int k = 3; k < 40; k++) {
            Check.yes(11, "gold", x, x.gold(1, k, k));
        }
        Check.no(11, "a 41st", x, x.gold(1, 0, 5), 4);
        Check.no(11, "what can't be comes first", x, x.gold(2, 0, 5), 1);
        Check.gives(12, "of the 40th", x, x.coins(1, 100, 1000), 39);
    }

    private static void roads() {
        PostUnion x = Check.union(3);
        int[][] bad = {{0, 0, 1, 0}, {-1, 0, 1, 0}, {0, 3, 1, 0}, {0, 1, 0, 0}, {0, 1, 61, 0}, {0, 1, -2, 0}, {0, 1, 1, -1}, {0, 1, 1, 10_001},
            {1, 1, -1, 0}, {0, 3, -1, 0}, {1, 1, -1, -1}};
        for (int[] b : bad) {
            Check.no(13, "road", x, x.road(b[0], b[1], b[2], b[3]), 1);
        }
        Check.no(13, "none goes", x, x.road(0, 1, -1, 0), 6);
        Check.no(13, "none goes, whatever the freight", x, x.road(0, 1, -1, 10_001), 6);
        Check.yes(13, "road", x, x.road(0, 1, 60, 10_000));
        Check.gives(13, "both ways", x, x.carried(1, 0), 10_000);
        Check.yes(13, "another one", x, x.road(1, 0, 1, 0));
        Check.gives(13, "the other goes", x, x.carried(0, 1), 0);
        Check.gives(13, "its DAYS", x, x.way(0, 1, 0, 1, 1, 0, 1), 1);
        Check.yes(13, "none any more", x, x.road(1, 0, -1, 0));
        Check.none(13, "it is gone", x, x.carried(0, 1), 6);
        Check.no(13, "gone already", x, x.road(0, 1, -1, 0), 6);
        for (int freight : new int[] {-1, 10_001, Integer.MIN_VALUE, Integer.MAX_VALUE}) {
            x.road(0, 1, 2, 70);
            x.road(1, 2, 3, 80);
            Check.yes(13, "none any more, whatever the freight", x, x.road(1, 0, -1, freight));
            Check.none(13, "it is gone", x, x.carried(0, 1), 6);
            Check.gives(13, "another stands", x, x.carried(1, 2), 80);
            Check.none(13, "no WAY", x, x.price(0, 2, 0, 1000, 1, 0), 6);
            Check.yes(13, "it comes again", x, x.road(0, 1, 2, 60));
            Check.gives(13, "with its own FREIGHT", x, x.carried(0, 2), 140);
        }
    }

    private static void carried() {
        PostUnion x = Check.union(7);
        for (int k = 0; k < 6; k++) {
            x.road(k, k + 1, 1, 10_000);
        }
        Check.gives(26, "over six ROADS", x, x.carried(0, 6), 60_000);
        Check.gives(26, "like LANDS", x, x.carried(6, 6), 0);
        x.road(0, 6, 60, 9_000);
        Check.gives(26, "the least", x, x.carried(0, 5), 19_000);
        Check.gives(26, "back", x, x.carried(5, 0), 19_000);
        x.road(2, 3, -1, 0);
        Check.gives(26, "round", x, x.carried(2, 3), 59_000);
        x.road(0, 6, -1, 0);
        Check.none(26, "no ROADS", x, x.carried(2, 3), 6);
        Check.none(26, "no LAND", x, x.carried(7, 0), 1);
        Check.none(26, "no LAND", x, x.carried(0, -1), 1);
    }

    private static void rates() {
        PostUnion x = Check.union(4);
        int[][] bad = {{0, 0, 1}, {4, 0, 1}, {0, -1, 1}, {0, 1, -1}, {0, 1, 1_000_000_001}};
        for (int[] b : bad) {
            Check.no(30, "rate", x, x.rate(b[0], b[1], b[2]), 1);
        }
        Check.gives(31, "at first", x, x.even(0, 1), 0);
        Check.gives(32, "at first", x, x.uneven(), 0);
        Check.yes(30, "rate", x, x.rate(0, 3, 1_000_000_000));
        Check.gives(31, "without ROADS", x, x.even(0, 3), 1_000_000_000);
        x.rate(1, 3, 5_000);
        x.rate(2, 3, 100);
        x.road(0, 1, 1, 30);
        x.road(1, 2, 1, 40);
        Check.gives(31, "over two", x, x.even(0, 3), 170);
        Check.gives(31, "over one", x, x.even(1, 3), 140);
        Check.gives(31, "the least itself", x, x.even(2, 3), 100);
        Check.gives(32, "two are above", x, x.uneven(), 2);
        x.rate(0, 3, 170);
        Check.gives(32, "alike is not above", x, x.uneven(), 1);
        Check.yes(30, "rate of 0", x, x.rate(2, 3, 0));
        Check.gives(31, "rate of 0", x, x.even(1, 3), 40);
        x.rate(2, 3, 100);
        x.rate(2, 1, 50);
        Check.gives(31, "over the first LAND, whose RATE is 0", x, x.even(2, 1), 50);
        x.road(0, 2, 1, 20);
        Check.gives(31, "over the first LAND, whose RATE is 0", x, x.even(2, 1), 20);
        Check.gives(32, "a RATE to each LAND counts", x, x.uneven(), 3);
        x.rate(2, 0, 41);
        Check.gives(32, "a RATE to the first LAND counts", x, x.uneven(), 4);
        x.road(0, 2, -1, 0);
        x.rate(2, 0, 0);
        x.rate(2, 1, 0);
        x.rate(0, 1, 900);
        Check.gives(31, "over another, whose RATE is 0", x, x.even(0, 1), 70);
        PostUnion y = Check.union(3);
        y.rate(0, 2, 500);
        y.rate(1, 2, 10);
        y.road(0, 2, 1, 1);
        y.road(2, 1, 1, 1);
        Check.gives(31, "CARRIED through where it goes", y, y.even(0, 2), 12);
        Check.none(31, "like LANDS", x, x.even(1, 1), 1);
        Check.none(31, "no LAND", x, x.even(1, 4), 1);
    }
}
