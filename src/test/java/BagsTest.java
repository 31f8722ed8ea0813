/** Promises 44 to 49. */
public final class BagsTest {
    public static void main(String[] args) {
        rules();
        bags();
        handed();
        twoTimes();
        late();
        loses();
        Check.end("BagsTest");
    }

    private static PostUnion row() {
        PostUnion x = Check.union(5);
        for (int k = 0; k < 4; k++) {
            x.road(k, k + 1, 10, 0);
        }
        Check.tray(x, 0, 0, 1, 2, 3, 4, 9);
        return x;
    }

    private static void rules() {
        PostUnion x = row();
        int[][] bad = {{-1, 1, 0}, {61, 1, 0}, {0, 0, 0}, {0, 366, 0}, {0, 1, -1}, {0, 1, 100_001}};
        for (int[] b : bad) {
            Check.no(44, "rules", x, x.rules(b[0], b[1], b[2]), 1);
        }
        x.bag(1_000_000, 0, 2, 0);
        Check.gives(44, "at first GRACE is 5", x, x.late(0, 15, 0), 0);
        Check.gives(44, "at first GRACE is 5", x, x.late(0, 16, 0), 1);
        Check.gives(44, "at first LIMIT is 30", x, x.late(0, 45, 0), 1);
        Check.gives(44, "at first LIMIT is 30", x, x.late(0, 46, 0), 2);
        Check.gives(44, "at first LOSS is 40", x, x.loses(0, 46), 40_000);
        Check.yes(44, "rules", x, x.rules(60, 365, 100_000));
        Check.gives(44, "GRACE", x, x.late(0, 70, 0), 0);
        Check.gives(44, "GRACE", x, x.late(0, 71, 0), 1);
        Check.gives(44, "LIMIT", x, x.late(0, 435, 0), 1);
        Check.gives(44, "LIMIT", x, x.late(0, 436, 0), 2);
        Check.gives(44, "LOSS", x, x.loses(0, 436), 100_000_000);
        Check.yes(44, "rules", x, x.rules(0, 1, 0));
        Check.gives(44, "GRACE", x, x.late(0, 11, 0), 1);
        Check.gives(44, "LIMIT", x, x.late(0, 12, 0), 2);
        Check.gives(44, "LOSS", x, x.loses(0, 12), 0);
    }

    private static void bags() {
        PostUnion x = row();
        int[][] bad = {{0, 0, 2, 0}, {1_000_001, 0, 2, 0}, {1, -1, 2, 0}, {1, 4, 2, 0}, {1, 0, 1, 0}, {1, 0, 6, 0}, {1, 0, 2, -1}, {1, 0, 2, 10_000}};
        for (int[] b : bad) {
            Check.none(45, "bag", x, x.bag(b[0], b[1], b[2], b[3]), 1);
        }
        Check.none(45, "MISSING", x, x.bag(1, 1, 2, 0), 2);
        Check.tray(x, 1, 99);
        Check.none(45, "too few comes ahead of no LAND", x, x.bag(1, 1, 2, 0), 3);
        Check.tray(x, 1, 0, 0, 5);
        Check.none(45, "no LAND comes ahead of one twice", x, x.bag(1, 1, 3, 0), 1);
        Check.tray(x, 1, 0, 1, 1L << 32);
        Check.none(45, "no LAND", x, x.bag(1, 1, 3, 0), 1);
        Check.tray(x, 1, 0, -1);
        Check.none(45, "no LAND", x, x.bag(1, 1, 2, 0), 1);
        Check.tray(x, 1, 0, 1, 0);
        Check.none(45, "one LAND twice", x, x.bag(1, 1, 3, 0), 6);
        Check.tray(x, 1, 7, 1);
        Check.none(45, "the first is no LAND", x, x.bag(1, 1, 2, 0), 1);
        Check.tray(x, 1, 2, 3, 4);
        Check.gives(45, "a WAY elsewhere", x, x.bag(1, 1, 2, 0), 0);
        Check.gives(45, "its first LAND", x, x.where(0, 0), 2);
        x.handed(0, 1, 0, 0);
        Check.gives(45, "its last LAND", x, x.where(0, 0), 3);
        Check.no(45, "it has no third", x, x.handed(0, 2, 0, 0), 1);
        Check.tray(x, 1, 0, 2);
        Check.none(45, "no ROAD", x, x.bag(1, 1, 2, 0), 6);
        Check.gives(45, "five", x, x.bag(1_000_000, 0, 5, 9_999), 1);
        Check.yes(45, "its fifth", x, x.handed(1, 4, 0, 0));
        for (int k = 2; k < 30; k++) {
            Check.gives(45, "bag", x, x.bag(1, 0, 2, 0), k);
        }
        Check.none(45, "a 31st", x, x.bag(1, 0, 2, 0), 4);
        Check.none(45, "no ROAD comes ahead", x, x.bag(1, 1, 2, 0), 6);
    }

    private static void handed() {
        PostUnion x = row();
        x.bag(1, 0, 3, 50);
        int[][] bad = {{1, 0, 0, 0}, {-1, 0, 0, 0}, {0, -1, 0, 0}, {0, 3, 0, 0}, {0, 0, -1, 0}, {0, 0, 0, 10_000}, {0, 0, 5, 4}};
        for (int[] b : bad) {
            Check.no(46, "handed", x, x.handed(b[0], b[1], b[2], b[3]), 1);
        }
        Check.yes(46, "handed on the DAY itself", x, x.handed(0, 1, 60, 60));
        Check.no(46, "a KNOWN DAY ahead of the first one", x, x.handed(0, 2, 3, 59), 5);
        Check.yes(46, "a DAY ahead of its beginning", x, x.handed(0, 1, 3, 60));
        Check.no(46, "a KNOWN DAY that is gone", x, x.handed(0, 2, 3, 59), 5);
        Check.gives(46, "nothing changed", x, x.where(0, 9_999), 1);
        x.bag(1, 0, 2, 0);
        Check.no(46, "KNOWN DAYS are those of all BAGS", x, x.handed(1, 1, 3, 59), 5);
        for (int k = 2; k < 150; k++) {
            Check.yes(46, "handed", x, x.handed(0, k % 3, 0, 60 + k));
        }
        Check.no(46, "a 151st", x, x.handed(0, 0, 0, 9_999), 4);
        Check.no(46, "it comes ahead of a DAY that is gone", x, x.handed(0, 0, 0, 0), 4);
        Check.no(46, "what can't be comes first", x, x.handed(2, 0, 0, 0), 1);
    }

    private static void twoTimes() {
        PostUnion x = row();
        x.bag(1, 0, 4, 100);
        Check.gives(47, "ahead of all", x, x.where(0, 0), 0);
        x.handed(0, 2, 110, 120);
        x.handed(0, 1, 105, 130);
        x.handed(0, 3, 115, 140);
        Check.gives(47, "not KNOWN yet", x, x.where(0, 119), 0);
        Check.gives(47, "KNOWN", x, x.where(0, 120), 2);
        Check.gives(47, "an earlier place told later", x, x.where(0, 130), 2);
        Check.gives(47, "the last", x, x.where(0, 140), 3);
        Check.none(47, "no BAG", x, x.where(1, 0), 1);
        Check.none(47, "no BAG", x, x.where(-1, 0), 1);
        Check.none(47, "known", x, x.where(0, -1), 1);
        Check.none(47, "known", x, x.where(0, 10_000), 1);
    }

    private static void late() {
        PostUnion x = row();
        x.bag(1, 0, 3, 100);
        Check.none(48, "ahead of its beginning", x, x.late(0, 99, 9_999), 1);
        Check.none(48, "no BAG", x, x.late(1, 100, 0), 1);
        Check.none(48, "day", x, x.late(0, 10_000, 0), 1);
        Check.none(48, "known", x, x.late(0, 100, 10_000), 1);
        Check.none(48, "known", x, x.late(0, 100, -1), 1);
        Check.gives(48, "neither", x, x.late(0, 115, 0), 0);
        Check.gives(48, "LATE", x, x.late(0, 116, 0), 1);
        Check.gives(48, "LATE still", x, x.late(0, 145, 0), 1);
        Check.gives(48, "LOST", x, x.late(0, 146, 0), 2);
        x.handed(0, 0, 120, 125);
        Check.gives(48, "began anew", x, x.late(0, 135, 125), 0);
        Check.gives(48, "LATE by that", x, x.late(0, 136, 125), 1);
        Check.gives(48, "not KNOWN yet", x, x.late(0, 146, 124), 2);
        x.handed(0, 1, 140, 150);
        x.handed(0, 1, 130, 150);
        Check.gives(48, "of several the one told latest", x, x.late(0, 145, 150), 0);
        Check.gives(48, "of several the one told latest", x, x.late(0, 146, 150), 1);
        Check.gives(48, "ahead of its coming", x, x.late(0, 100, 150), 0);
        x.road(1, 2, 3, 0);
        Check.gives(48, "the ROAD as it is now", x, x.late(0, 138, 150), 0);
        Check.gives(48, "the ROAD as it is now", x, x.late(0, 139, 150), 1);
        x.road(1, 2, -1, 0);
        Check.gives(48, "a ROAD that is gone", x, x.late(0, 195, 150), 0);
        Check.gives(48, "a ROAD that is gone", x, x.late(0, 196, 150), 1);
        x.handed(0, 2, 160, 160);
        Check.gives(48, "at its last LAND", x, x.late(0, 9_999, 160), 0);
    }

    private static void loses() {
        PostUnion x = row();
        Check.none(49, "no LAND", x, x.loses(5, 0), 1);
        Check.none(49, "no LAND", x, x.loses(-1, 0), 1);
        Check.none(49, "day", x, x.loses(0, 10_000), 1);
        Check.gives(49, "no BAGS", x, x.loses(0, 0), 0);
        x.bag(1_999, 0, 3, 0);
        x.bag(24, 0, 3, 0);
        x.bag(1_000, 0, 3, 500);
        x.rules(5, 30, 41);
        Check.gives(49, "LATE only", x, x.loses(0, 45), 0);
        Check.gives(49, "each rounded down", x, x.loses(0, 46), 81);
        Check.gives(49, "the third not yet", x, x.loses(0, 545), 81);
        Check.gives(49, "the third, too", x, x.loses(0, 546), 81 + 41);
        Check.gives(49, "another LAND", x, x.loses(1, 546), 0);
        x.handed(0, 1, 20, 100);
        Check.gives(49, "as known then", x, x.loses(0, 99), 81);
        Check.gives(49, "as known then", x, x.loses(0, 100), 0);
        Check.gives(49, "it is there", x, x.loses(1, 100), 81);
        x.handed(0, 2, 30, 100);
        Check.gives(49, "at its last LAND", x, x.loses(2, 9_999), 0);
    }
}
