/** Promises 44 to 49, and what the terms say of BAGS. */
final class EdgesOfBags {
    private static final int LEAST = Integer.MIN_VALUE;
    private static final int MOST = Integer.MAX_VALUE;

    private EdgesOfBags() {
    }

    static void run() {
        bagTerms();
        handedTerms();
        lateTerms();
        rules();
        bag();
        handed();
        where();
        late();
        loses();
    }

    /** Five LANDS in a row by ROADS of 10 DAYS, and their numbers in TRAY 0. */
    private static PostUnion row() {
        PostUnion x = Check.union(5);
        for (int land = 1; land < 5; land++) {
            x.road(land - 1, land, 10, 0);
        }
        Check.tray(x, 0, 0, 1, 2, 3, 4);
        return x;
    }

    private static void bagTerms() {
        Edge.of(0, "BAGS, at most 30, numbered as they come", () -> {
            PostUnion x = row();
            for (int k = 0; k < 30; k++) {
                Edge.gives(x, x.bag(1, 0, 2, k), k);
            }
            Edge.none(x, x.bag(1, 0, 2, 0), 4);
            Edge.gives(x, x.where(29, 0), 0);
            Edge.none(x, x.where(30, 0), 1);
        });
        Edge.of(0, "of a weight in grams (1 to 1,000,000)", () -> {
            PostUnion x = row();
            Edge.gives(x, x.bag(1, 0, 2, 0), 0);
            Edge.gives(x, x.bag(1_000_000, 0, 2, 0), 1);
            for (int weight : new int[] {0, -1, 1_000_001, LEAST, MOST}) {
                Edge.none(x, x.bag(weight, 0, 2, 0), 1);
            }
            Edge.gives(x, x.loses(0, 9_999), 40_000);
        });
        Edge.of(0, "with a WAY of 2 to 5 LANDS by ROADS (the first so many numbers of a TRAY)", () -> {
            PostUnion x = row();
            Edge.gives(x, x.bag(1, 0, 2, 0), 0);
            Edge.gives(x, x.bag(1, 0, 5, 0), 1);
            for (int lands : new int[] {1, 0, -1, 6, LEAST, MOST}) {
                Edge.none(x, x.bag(1, 0, lands, 0), 1);
            }
            Check.tray(x, 1, 3, 2, 99, 99, 99);
            Edge.gives(x, x.bag(1, 1, 2, 0), 2);
            x.handed(2, 1, 0, 0);
            Edge.gives(x, x.where(2, 0), 2);
        });
        Edge.of(0, "begun on a DAY at the first one.", () -> {
            PostUnion x = row();
            Check.tray(x, 1, 4, 3);
            x.bag(1, 1, 2, 0);
            x.bag(1, 1, 2, 9_999);
            Edge.gives(x, x.where(0, 0), 4);
            Edge.gives(x, x.where(1, 9_999), 4);
            Edge.gives(x, x.late(0, 16, 0), 1);
            Edge.gives(x, x.late(1, 9_999, 0), 0);
        });
    }

    private static void handedTerms() {
        Edge.of(0, "HANDED, at most 150: a BAG came to the k-th LAND of its WAY on a DAY", () -> {
            PostUnion x = row();
            x.bag(1, 0, 5, 0);
            x.bag(1, 0, 5, 0);
            for (int k = 0; k < 149; k++) {
                Edge.yes(x, x.handed(0, k % 4, 0, 0));
            }
            Edge.yes(x, x.handed(1, 4, 0, 0));
            Edge.no(x, x.handed(0, 4, 0, 0), 4);
            Edge.gives(x, x.where(0, 9_999), 3);
            Edge.gives(x, x.where(1, 0), 4);
        });
        Edge.of(0, "KNOWN on a DAY not ahead of it", () -> {
            PostUnion x = row();
            x.bag(1, 0, 5, 0);
            Edge.no(x, x.handed(0, 1, 10, 9), 1);
            Edge.yes(x, x.handed(0, 1, 10, 10));
            Edge.yes(x, x.handed(0, 2, 10, 11));
        });
        Edge.of(0, "(KNOWN DAYS never go back)", () -> {
            PostUnion x = row();
            x.bag(1, 0, 5, 0);
            x.bag(1, 0, 5, 0);
            Edge.yes(x, x.handed(0, 1, 0, 20));
            Edge.no(x, x.handed(0, 2, 0, 19), 5);
            Edge.no(x, x.handed(1, 2, 0, 19), 5);
            Edge.yes(x, x.handed(1, 2, 0, 20));
            Edge.yes(x, x.handed(0, 2, 0, 21));
            Edge.no(x, x.handed(0, 3, 0, 20), 5);
        });
        Edge.of(0, "any order.", () -> {
            PostUnion x = row();
            x.bag(1, 0, 5, 50);
            Edge.yes(x, x.handed(0, 4, 90, 100));
            Edge.yes(x, x.handed(0, 1, 95, 100));
            Edge.yes(x, x.handed(0, 3, 20, 100));
            Edge.yes(x, x.handed(0, 0, 99, 100));
            Edge.gives(x, x.where(0, 99), 0);
            Edge.gives(x, x.where(0, 100), 4);
        });
        Edge.of(0, "As known on a DAY a BAG is at the latest place of its WAY of which a coming is KNOWN", () -> {
            PostUnion x = row();
            x.bag(1, 0, 5, 0);
            x.handed(0, 2, 5, 10);
            x.handed(0, 1, 8, 12);
            Edge.gives(x, x.where(0, 9), 0);
            Edge.gives(x, x.where(0, 10), 2);
            Edge.gives(x, x.where(0, 12), 2);
        });
        Edge.of(0, "since the DAY of that (of several the one told latest).", () -> {
            PostUnion x = row();
            x.bag(1, 0, 5, 0);
            x.handed(0, 1, 50, 60);
            x.handed(0, 1, 40, 60);
            Edge.gives(x, x.late(0, 55, 60), 0);
            Edge.gives(x, x.late(0, 56, 60), 1);
            x.handed(0, 1, 50, 61);
            Edge.gives(x, x.late(0, 56, 60), 1);
            Edge.gives(x, x.late(0, 65, 61), 0);
            Edge.gives(x, x.late(0, 66, 61), 1);
            x.handed(0, 0, 61, 61);
            Edge.gives(x, x.late(0, 66, 61), 1);
        });
    }

    private static void lateTerms() {
        Edge.of(0, "It is LATE on a DAY, if it isn't at its last LAND, and more DAYS have gone since than the next ROAD takes", () -> {
            PostUnion x = row();
            x.rules(0, 365, 0);
            x.bag(1, 0, 2, 100);
            Edge.gives(x, x.late(0, 110, 0), 0);
            Edge.gives(x, x.late(0, 111, 0), 1);
            x.handed(0, 1, 100, 100);
            Edge.gives(x, x.late(0, 111, 100), 0);
            Edge.gives(x, x.late(0, 9_999, 100), 0);
        });
        Edge.of(0, "(as it is now; one that is gone: 60)", () -> {
            PostUnion x = row();
            x.rules(0, 365, 0);
            x.bag(1, 0, 3, 0);
            x.road(1, 0, 1, 0);
            Edge.gives(x, x.late(0, 1, 0), 0);
            Edge.gives(x, x.late(0, 2, 0), 1);
            x.road(1, 0, -1, 0);
            Edge.gives(x, x.late(0, 60, 0), 0);
            Edge.gives(x, x.late(0, 61, 0), 1);
            x.road(1, 0, 7, 0);
            Edge.gives(x, x.late(0, 8, 0), 1);
        });
        Edge.of(0, "and GRACE (0 to 60; 5 at first)", () -> {
            PostUnion x = row();
            x.bag(1, 0, 2, 0);
            Edge.gives(x, x.late(0, 15, 0), 0);
            Edge.gives(x, x.late(0, 16, 0), 1);
            for (int grace : new int[] {0, 60}) {
                Edge.yes(x, x.rules(grace, 365, 0));
                Edge.gives(x, x.late(0, 10 + grace, 0), 0);
                Edge.gives(x, x.late(0, 11 + grace, 0), 1);
            }
        });
        Edge.of(0, "LOST, if more than that and LIMIT (1 to 365; 30).", () -> {
            PostUnion x = row();
            x.bag(1, 0, 2, 0);
            Edge.gives(x, x.late(0, 45, 0), 1);
            Edge.gives(x, x.late(0, 46, 0), 2);
            for (int limit : new int[] {1, 365}) {
                Edge.yes(x, x.rules(5, limit, 0));
                Edge.gives(x, x.late(0, 15 + limit, 0), 1);
                Edge.gives(x, x.late(0, 16 + limit, 0), 2);
            }
        });
        Edge.of(0, "The LAND at which it is so owes its LOSS: weight times LOSS by 1,000, rounded down", () -> {
            PostUnion x = row();
            x.rules(0, 1, 999);
            x.bag(1, 0, 3, 0);
            Edge.gives(x, x.loses(0, 12), 0);
            x.bag(2, 0, 3, 0);
            Edge.gives(x, x.loses(0, 12), 1);
            x.bag(2, 0, 3, 0);
            Edge.gives(x, x.loses(0, 12), 2);
            x.handed(1, 1, 1, 1);
            Edge.gives(x, x.loses(0, 13), 1);
            Edge.gives(x, x.loses(1, 13), 1);
            Edge.gives(x, x.loses(2, 13), 0);
        });
        Edge.of(0, "(LOSS: gold for a kilogram, 0 to 100,000; 40 at first).", () -> {
            PostUnion x = row();
            x.bag(1_000_000, 0, 2, 0);
            Edge.gives(x, x.loses(0, 46), 40_000);
            Edge.yes(x, x.rules(5, 30, 0));
            Edge.gives(x, x.loses(0, 46), 0);
            Edge.yes(x, x.rules(5, 30, 100_000));
            Edge.gives(x, x.loses(0, 46), 100_000_000);
        });
    }

    private static void rules() {
        Edge.of(44, "GRACE, LIMIT, LOSS", () -> {
            PostUnion x = row();
            x.bag(1_000, 0, 2, 0);
            Edge.yes(x, x.rules(3, 4, 7));
            Edge.gives(x, x.late(0, 13, 0), 0);
            Edge.gives(x, x.late(0, 14, 0), 1);
            Edge.gives(x, x.late(0, 17, 0), 1);
            Edge.gives(x, x.late(0, 18, 0), 2);
            Edge.gives(x, x.loses(0, 18), 7);
        });
        Edge.of(44, "(1)", () -> {
            PostUnion x = row();
            for (int grace : new int[] {-1, 61, LEAST, MOST}) {
                Edge.no(x, x.rules(grace, 1, 0), 1);
            }
            for (int limit : new int[] {0, -1, 366, LEAST, MOST}) {
                Edge.no(x, x.rules(0, limit, 0), 1);
            }
            for (int loss : new int[] {-1, 100_001, LEAST, MOST}) {
                Edge.no(x, x.rules(0, 1, loss), 1);
            }
            x.bag(1_000, 0, 2, 0);
            Edge.gives(x, x.late(0, 15, 0), 0);
            Edge.gives(x, x.late(0, 45, 0), 1);
            Edge.gives(x, x.loses(0, 46), 40);
        });
    }

    private static void bag() {
        Edge.of(45, "A BAG more: its number", () -> {
            PostUnion x = row();
            Edge.gives(x, x.bag(1, 0, 5, 0), 0);
            Edge.gives(x, x.bag(1_000_000, 0, 2, 9_999), 1);
        });
        Edge.of(45, "(1; 2; 3", () -> {
            PostUnion x = row();
            for (int tray : new int[] {-1, 4, LEAST, MOST}) {
                Edge.none(x, x.bag(1, tray, 2, 0), 1);
            }
            for (int day : new int[] {-1, 10_000, LEAST, MOST}) {
                Edge.none(x, x.bag(1, 0, 2, day), 1);
            }
            Edge.none(x, x.bag(0, 0, 2, 0), 1);
            Edge.none(x, x.bag(1, 0, 1, 0), 1);
        });
        Edge.of(45, "2; 3", () -> {
            PostUnion x = row();
            Edge.none(x, x.bag(1, 1, 2, 0), 2);
        });
        Edge.of(45, "3", () -> {
            PostUnion x = row();
            x.tray(1, 0, 0);
            Edge.none(x, x.bag(1, 1, 2, 0), 3);
            Check.tray(x, 1, 0, 1, 2, 3);
            Edge.gives(x, x.bag(1, 1, 4, 0), 0);
            Edge.none(x, x.bag(1, 1, 5, 0), 3);
        });
        Edge.of(45, "1: a LAND", () -> {
            PostUnion x = row();
            for (long land : new long[] {-1, 5, 7, 1L << 32, Long.MIN_VALUE, Long.MAX_VALUE}) {
                Check.tray(x, 1, land, 0);
                Edge.none(x, x.bag(1, 1, 2, 0), 1);
                Check.tray(x, 1, 0, land);
                Edge.none(x, x.bag(1, 1, 2, 0), 1);
            }
            PostUnion y = new PostUnion();
            Check.tray(y, 0, 0, 1);
            Edge.none(y, y.bag(1, 0, 2, 0), 1);
        });
        Edge.of(45, "6: no ROAD, or one LAND twice", () -> {
            PostUnion x = row();
            Check.tray(x, 1, 0, 2);
            Edge.none(x, x.bag(1, 1, 2, 0), 6);
            Check.tray(x, 1, 0, 1, 0);
            Edge.none(x, x.bag(1, 1, 3, 0), 6);
            Check.tray(x, 1, 3, 3);
            Edge.none(x, x.bag(1, 1, 2, 0), 6);
            Check.tray(x, 1, 0, 1, 2, 3, 1);
            Edge.none(x, x.bag(1, 1, 5, 0), 6);
            Edge.gives(x, x.bag(1, 1, 4, 0), 0);
            x.road(3, 1, 1, 0);
            Edge.none(x, x.bag(1, 1, 5, 0), 6);
            x.road(2, 3, -1, 0);
            Edge.none(x, x.bag(1, 1, 4, 0), 6);
        });
        Edge.of(45, "4", () -> {
            PostUnion x = row();
            for (int k = 0; k < 30; k++) {
                x.bag(1, 0, 2, 0);
            }
            Edge.none(x, x.bag(1, 0, 2, 0), 4);
        });
        Edge.of(45, "asked in this order", () -> {
            PostUnion x = row();
            for (int k = 0; k < 30; k++) {
                x.bag(1, 0, 2, 0);
            }
            Edge.none(x, x.bag(0, 3, 2, 0), 1);
            Edge.none(x, x.bag(1, 3, 5, 0), 2);
            Check.tray(x, 1, 9);
            Edge.none(x, x.bag(1, 1, 2, 0), 3);
            Check.tray(x, 1, 0, 0, 9);
            Edge.none(x, x.bag(1, 1, 3, 0), 1);
            Edge.none(x, x.bag(1, 1, 2, 0), 6);
            Edge.none(x, x.bag(1, 0, 2, 0), 4);
        });
    }

    private static void handed() {
        Edge.of(46, "A BAG came to the k-th LAND of its WAY (0 to its last) on a DAY, KNOWN on one", () -> {
            PostUnion x = row();
            x.bag(1, 0, 5, 0);
            x.bag(1, 0, 2, 0);
            Edge.yes(x, x.handed(0, 0, 0, 0));
            Edge.gives(x, x.where(0, 0), 0);
            Edge.yes(x, x.handed(0, 4, 9_999, 9_999));
            Edge.gives(x, x.where(0, 9_998), 0);
            Edge.gives(x, x.where(0, 9_999), 4);
            Edge.yes(x, x.handed(1, 1, 0, 9_999));
            Edge.no(x, x.handed(1, 2, 0, 9_999), 1);
            for (int k : new int[] {-1, 5, LEAST, MOST}) {
                Edge.no(x, x.handed(0, k, 9_999, 9_999), 1);
            }
        });
        Edge.of(46, "1: also KNOWN ahead of it", () -> {
            PostUnion x = row();
            x.bag(1, 0, 5, 0);
            for (int bag : new int[] {-1, 1, 30, LEAST, MOST}) {
                Edge.no(x, x.handed(bag, 0, 0, 0), 1);
            }
            Edge.no(x, x.handed(0, 1, 1, 0), 1);
            Edge.no(x, x.handed(0, 1, 9_999, 9_998), 1);
            Edge.no(x, x.handed(0, 1, 0, 10_000), 1);
            Edge.no(x, x.handed(0, 1, -1, 0), 1);
            Edge.gives(x, x.where(0, 9_999), 0);
        });
        Edge.of(46, "4", () -> {
            PostUnion x = row();
            x.bag(1, 0, 5, 0);
            for (int k = 0; k < 150; k++) {
                Edge.yes(x, x.handed(0, 1, 0, 7));
            }
            Edge.no(x, x.handed(0, 2, 0, 7), 4);
            Edge.no(x, x.handed(0, 2, 0, 6), 4);
            Edge.no(x, x.handed(0, 5, 0, 7), 1);
            Edge.gives(x, x.where(0, 9_999), 1);
        });
        Edge.of(46, "5", () -> {
            PostUnion x = row();
            x.bag(1, 0, 5, 0);
            Edge.yes(x, x.handed(0, 1, 0, 0));
            Edge.yes(x, x.handed(0, 1, 0, 9_999));
            Edge.no(x, x.handed(0, 2, 0, 9_998), 5);
            Edge.no(x, x.handed(0, 2, 9_998, 9_997), 1);
            Edge.yes(x, x.handed(0, 2, 0, 9_999));
        });
    }

    private static void where() {
        Edge.of(47, "At which LAND a BAG is, as known on a DAY (0 to 9,999)", () -> {
            PostUnion x = row();
            x.bag(1, 0, 5, 5_000);
            x.handed(0, 3, 6_000, 9_999);
            Edge.gives(x, x.where(0, 0), 0);
            Edge.gives(x, x.where(0, 9_998), 0);
            Edge.gives(x, x.where(0, 9_999), 3);
        });
        Edge.of(47, "(1)", () -> {
            PostUnion x = row();
            Edge.none(x, x.where(0, 0), 1);
            x.bag(1, 0, 5, 0);
            for (int bag : new int[] {-1, 1, 30, LEAST, MOST}) {
                Edge.none(x, x.where(bag, 0), 1);
            }
            for (int known : new int[] {-1, 10_000, LEAST, MOST}) {
                Edge.none(x, x.where(0, known), 1);
            }
        });
    }

    private static void late() {
        Edge.of(48, "0 it is neither, 1 LATE, 2 LOST, on a DAY, as known on a DAY", () -> {
            PostUnion x = row();
            x.bag(1, 0, 5, 0);
            x.handed(0, 1, 10, 40);
            Edge.gives(x, x.late(0, 0, 0), 0);
            Edge.gives(x, x.late(0, 16, 39), 1);
            Edge.gives(x, x.late(0, 46, 39), 2);
            Edge.gives(x, x.late(0, 16, 40), 0);
            Edge.gives(x, x.late(0, 46, 40), 1);
            Edge.gives(x, x.late(0, 9_999, 9_999), 2);
        });
        Edge.of(48, "(1: also a DAY ahead of its beginning)", () -> {
            PostUnion x = row();
            x.bag(1, 0, 5, 100);
            Edge.none(x, x.late(0, 99, 9_999), 1);
            Edge.gives(x, x.late(0, 100, 0), 0);
            for (int bag : new int[] {-1, 1, 30, LEAST, MOST}) {
                Edge.none(x, x.late(bag, 100, 100), 1);
            }
            for (int day : new int[] {-1, 10_000, LEAST, MOST}) {
                Edge.none(x, x.late(0, day, 100), 1);
                Edge.none(x, x.late(0, 100, day), 1);
            }
        });
    }

    private static void loses() {
        Edge.of(49, "What a LAND owes for all BAGS LOST on a DAY, as known then", () -> {
            PostUnion x = row();
            for (int k = 0; k < 30; k++) {
                x.bag(1_000_000, 0, 5, 0);
            }
            x.rules(5, 30, 100_000);
            Edge.gives(x, x.loses(0, 45), 0);
            Edge.gives(x, x.loses(0, 46), 3_000_000_000L);
            x.handed(29, 1, 0, 50);
            Edge.gives(x, x.loses(0, 49), 3_000_000_000L);
            Edge.gives(x, x.loses(0, 50), 2_900_000_000L);
            Edge.gives(x, x.loses(1, 49), 0);
            Edge.gives(x, x.loses(1, 50), 100_000_000);
        });
        Edge.of(49, "(1", () -> {
            PostUnion x = row();
            for (int land : new int[] {-1, 5, 7, LEAST, MOST}) {
                Edge.none(x, x.loses(land, 0), 1);
            }
            for (int day : new int[] {-1, 10_000, LEAST, MOST}) {
                Edge.none(x, x.loses(0, day), 1);
            }
        });
        Edge.of(49, "those that began later are not looked at", () -> {
            PostUnion x = row();
            x.bag(1_000, 0, 5, 100);
            x.handed(0, 1, 0, 0);
            x.handed(0, 2, 0, 0);
            Edge.gives(x, x.loses(2, 99), 0);
            Edge.gives(x, x.loses(2, 100), 40);
        });
    }
}
