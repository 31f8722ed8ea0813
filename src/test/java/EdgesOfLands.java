/** Promises 10 to 13, and what the terms say of LANDS, DAYS, GOLD and ROADS. */
final class EdgesOfLands {
    private static final int LEAST = Integer.MIN_VALUE;
    private static final int MOST = Integer.MAX_VALUE;

    private EdgesOfLands() {
    }

    static void run() {
        terms();
        days();
        land();
        gold();
        coins();
        road();
    }

    private static void terms() {
        Edge.of(0, "LANDS, at most 7, numbered as they come.", () -> {
            PostUnion x = new PostUnion();
            for (int k = 0; k < 7; k++) {
                Edge.gives(x, x.land(), k);
            }
            Edge.none(x, x.land(), 4);
        });
        Edge.of(0, "the YEAR of a DAY is the DAY by 365, rounded down.", () -> {
            PostUnion x = Check.union(2);
            Check.treaty(x, "a:due gives year;", 0);
            int[][] years = {{0, 0}, {364, 0}, {365, 1}, {729, 1}, {730, 2}, {9_854, 26}, {9_855, 27}, {9_999, 27}};
            for (int[] year : years) {
                Edge.gives(x, x.due(0, 1, 0, 1, 1, year[0], 0), year[1]);
            }
        });
        Edge.of(0, "GOLD of a LAND on a DAY: how many of its COINS are 1,000 gold (1 to 1,000,000)", () -> {
            PostUnion x = Check.union(2);
            Edge.yes(x, x.gold(0, 0, 1));
            Edge.gives(x, x.coins(0, 0, 1_000), 1);
            Edge.yes(x, x.gold(1, 0, 1_000_000));
            Edge.gives(x, x.coins(1, 0, 1_000), 1_000_000);
        });
        Edge.of(0, "told from a DAY on, at most 40 times in all", () -> {
            PostUnion x = Check.union(2);
            for (int k = 0; k < 40; k++) {
                Edge.yes(x, x.gold(k % 2, 5, 2_000 + k));
            }
            Edge.no(x, x.gold(0, 5, 7), 4);
            Edge.gives(x, x.coins(0, 4, 1_000), 1_000);
            Edge.gives(x, x.coins(0, 5, 1_000), 2_038);
            Edge.gives(x, x.coins(1, 9_999, 1_000), 2_039);
        });
        Edge.of(0, "that told for the latest DAY by then, of like ones the later telling", () -> {
            PostUnion x = Check.union(1);
            x.gold(0, 20, 2_000);
            x.gold(0, 10, 3_000);
            x.gold(0, 20, 4_000);
            x.gold(0, 10, 5_000);
            Edge.gives(x, x.coins(0, 19, 1_000), 5_000);
            Edge.gives(x, x.coins(0, 20, 1_000), 4_000);
        });
        Edge.of(0, "1,000 without any.", () -> {
            PostUnion x = Check.union(2);
            x.gold(0, 1, 5);
            Edge.gives(x, x.coins(0, 0, 7), 7);
            Edge.gives(x, x.coins(1, 1, 7), 7);
        });
        Edge.of(0, "ROADS: between two LANDS, both ways alike", () -> {
            PostUnion x = Check.union(2);
            x.road(1, 0, 9, 77);
            Edge.gives(x, x.carried(0, 1), 77);
            Edge.gives(x, x.carried(1, 0), 77);
            Edge.gives(x, x.way(0, 1, 0, 1, 1, 0, 1), 9);
            Edge.gives(x, x.way(1, 0, 0, 1, 1, 0, 1), 9);
        });
        Edge.of(0, "how many DAYS it takes (1 to 60)", () -> {
            PostUnion x = Check.union(2);
            for (int days : new int[] {1, 60}) {
                Edge.yes(x, x.road(0, 1, days, 0));
                Edge.gives(x, x.way(0, 1, 0, 1, 1, 0, 1), days);
            }
            for (int days : new int[] {0, 61, -2, LEAST, MOST}) {
                Edge.no(x, x.road(0, 1, days, 0), 1);
            }
            Edge.gives(x, x.way(0, 1, 0, 1, 1, 0, 1), 60);
        });
        Edge.of(0, "and FREIGHT, gold for a kilogram (0 to 10,000).", () -> {
            PostUnion x = Check.union(2);
            for (int freight : new int[] {0, 10_000}) {
                Edge.yes(x, x.road(0, 1, 1, freight));
                Edge.gives(x, x.price(0, 1, 0, 1_000, 1, 0), freight);
            }
            for (int freight : new int[] {-1, 10_001, LEAST, MOST}) {
                Edge.no(x, x.road(0, 1, 1, freight), 1);
            }
            Edge.gives(x, x.carried(0, 1), 10_000);
        });
    }

    /** Three LANDS in a row, a TREATY, and a BAG that began on DAY 0. */
    private static PostUnion begun() {
        PostUnion x = Check.union(3);
        x.road(0, 1, 1, 1);
        x.road(1, 2, 1, 1);
        Check.treaty(x, "a:due gives 1;b:third gives 1;", 0);
        Check.tray(x, 0, 0, 1);
        x.bag(1, 0, 2, 0);
        return x;
    }

    private static void asksForDay(int status, int day) {
        PostUnion x = begun();
        x.gold(0, day, 1);
        Edge.is("gold", x.status(), status);
        x.coins(0, day, 1);
        Edge.is("coins", x.status(), status);
        x.reserve(0, 0, 0, day, true);
        Edge.is("reserve", x.status(), status);
        x.isOut(0, 0, 0, day);
        Edge.is("isOut", x.status(), status);
        x.due(1, 2, 0, 1, 1, day, 0);
        Edge.is("due", x.status(), status);
        x.dueBy(1, 2, 0, 1, 1, day, 0);
        Edge.is("dueBy", x.status(), status);
        x.third(0, 2, 1, 0, 1, 1, day, 1);
        Edge.is("third", x.status(), status);
        x.price(0, 2, 0, 1, 1, day);
        Edge.is("price", x.status(), status);
        x.way(0, 2, 0, 1, 1, day, 0);
        Edge.is("way", x.status(), status);
        x.remailed(0, 2, 0, 1, 1, day);
        Edge.is("remailed", x.status(), status);
        x.remailer(0, 2, 0, 1, 1, day);
        Edge.is("remailer", x.status(), status);
        x.gain(0, 2, 0, 1, 1, day);
        Edge.is("gain", x.status(), status);
        x.bag(1, 0, 2, day);
        Edge.is("bag", x.status(), status);
        x.handed(0, 1, day, 9_999);
        Edge.is("handed, its DAY", x.status(), status);
        x.where(0, day);
        Edge.is("where", x.status(), status);
        x.late(0, day, 0);
        Edge.is("late", x.status(), status);
        x.late(0, 0, day);
        Edge.is("late, as known", x.status(), status);
        x.loses(0, day);
        Edge.is("loses", x.status(), status);
        x.line(0, 0, day, 0);
        Edge.is("line", x.status(), status);
        PostUnion y = begun();
        y.handed(0, 1, 0, day);
        Edge.is("handed, KNOWN", y.status(), status);
    }

    private static void days() {
        Edge.of(0, "DAYS 0 to 9,999", () -> asksForDay(0, 0));
        Edge.of(0, "DAYS 0 to 9,999", () -> asksForDay(0, 9_999));
        Edge.of(0, "DAYS 0 to 9,999", () -> asksForDay(1, -1));
        Edge.of(0, "DAYS 0 to 9,999", () -> asksForDay(1, 10_000));
        Edge.of(0, "DAYS 0 to 9,999", () -> asksForDay(1, LEAST));
        Edge.of(0, "DAYS 0 to 9,999", () -> asksForDay(1, MOST));
    }

    private static void land() {
        Edge.of(10, "A LAND more: its number", () -> {
            PostUnion x = new PostUnion();
            Edge.gives(x, x.land(), 0);
            Edge.none(x, x.balance(1), 1);
            Edge.gives(x, x.land(), 1);
            Edge.none(x, x.balance(1), 6);
        });
        Edge.of(10, "(4)", () -> {
            PostUnion x = Check.union(7);
            Edge.none(x, x.land(), 4);
            Edge.none(x, x.land(), 4);
            Edge.gives(x, x.coins(6, 0, 3), 3);
            Edge.none(x, x.coins(7, 0, 3), 1);
        });
    }

    private static void gold() {
        Edge.of(11, "GOLD of a LAND from a DAY on", () -> {
            PostUnion x = Check.union(2);
            Edge.yes(x, x.gold(1, 9_999, 3_000));
            Edge.gives(x, x.coins(1, 9_998, 1_000), 1_000);
            Edge.gives(x, x.coins(1, 9_999, 1_000), 3_000);
            Edge.gives(x, x.coins(0, 9_999, 1_000), 1_000);
        });
        Edge.of(11, "(1, 4)", () -> {
            PostUnion x = Check.union(2);
            for (int land : new int[] {-1, 2, 7, LEAST, MOST}) {
                Edge.no(x, x.gold(land, 0, 1), 1);
            }
            for (int day : new int[] {-1, 10_000}) {
                Edge.no(x, x.gold(0, day, 1), 1);
            }
        });
        Edge.of(11, "(1, 4)", () -> {
            PostUnion x = Check.union(2);
            for (int coins : new int[] {0, -1, 1_000_001, LEAST, MOST}) {
                Edge.no(x, x.gold(0, 0, coins), 1);
            }
            Edge.gives(x, x.coins(0, 0, 1_000), 1_000);
        });
        Edge.of(11, "(1, 4)", () -> {
            PostUnion x = Check.union(2);
            for (int k = 0; k < 40; k++) {
                Edge.yes(x, x.gold(0, k, 1 + k));
            }
            Edge.no(x, x.gold(1, 0, 9), 4);
            Edge.no(x, x.gold(2, 0, 9), 1);
            Edge.gives(x, x.coins(1, 0, 1_000), 1_000);
            Edge.gives(x, x.coins(0, 39, 1_000), 40);
        });
    }

    private static void coins() {
        Edge.of(12, "So much gold (0 to 1,000,000,000,000) in COINS of a LAND on a DAY", () -> {
            PostUnion x = Check.union(1);
            x.gold(0, 0, 1_000_000);
            Edge.gives(x, x.coins(0, 0, 0), 0);
            Edge.gives(x, x.coins(0, 0, 1_000_000_000_000L), 1_000_000_000_000_000L);
        });
        Edge.of(12, "gold times GOLD by 1,000, rounded down", () -> {
            PostUnion x = Check.union(1);
            x.gold(0, 0, 1);
            Edge.gives(x, x.coins(0, 0, 999), 0);
            Edge.gives(x, x.coins(0, 0, 1_000), 1);
            Edge.gives(x, x.coins(0, 0, 1_999), 1);
            x.gold(0, 0, 999_999);
            Edge.gives(x, x.coins(0, 0, 1), 999);
        });
        Edge.of(12, "(1)", () -> {
            PostUnion x = Check.union(1);
            for (long gold : new long[] {-1, 1_000_000_000_001L, Long.MIN_VALUE, Long.MAX_VALUE}) {
                Edge.none(x, x.coins(0, 0, gold), 1);
            }
        });
        Edge.of(12, "(1)", () -> {
            PostUnion x = Check.union(1);
            Edge.none(x, x.coins(-1, 0, 0), 1);
            Edge.none(x, x.coins(1, 0, 0), 1);
            Edge.none(x, x.coins(0, -1, 0), 1);
            Edge.none(x, x.coins(0, 10_000, 0), 1);
        });
    }

    private static void road() {
        Edge.of(13, "A ROAD between two LANDS (another one of them goes)", () -> {
            PostUnion x = Check.union(3);
            Edge.yes(x, x.road(0, 1, 5, 50));
            Edge.yes(x, x.road(1, 2, 7, 70));
            Edge.yes(x, x.road(1, 0, 6, 900));
            Edge.gives(x, x.carried(0, 1), 900);
            Edge.gives(x, x.way(0, 1, 0, 1, 1, 0, 1), 6);
            Edge.gives(x, x.carried(1, 2), 70);
        });
        Edge.of(13, "or none any more (days NONE)", () -> {
            PostUnion x = Check.union(3);
            x.road(0, 1, 5, 50);
            x.road(1, 2, 7, 70);
            Edge.yes(x, x.road(1, 0, -1, 0));
            Edge.none(x, x.carried(0, 1), 6);
            Edge.none(x, x.price(0, 1, 0, 1, 1, 0), 6);
            Edge.gives(x, x.carried(1, 2), 70);
        });
        Edge.of(13, "or none any more (days NONE)", () -> {
            PostUnion x = Check.union(2);
            for (int freight : new int[] {-1, 10_001, LEAST, MOST}) {
                x.road(0, 1, 5, 50);
                Edge.yes(x, x.road(0, 1, -1, freight));
                Edge.none(x, x.carried(0, 1), 6);
            }
        });
        Edge.of(13, "1: like ones, too", () -> {
            PostUnion x = Check.union(3);
            for (int land = 0; land < 3; land++) {
                Edge.no(x, x.road(land, land, 1, 1), 1);
                Edge.no(x, x.road(land, land, -1, 1), 1);
            }
        });
        Edge.of(13, "1: like ones, too", () -> {
            PostUnion x = Check.union(3);
            for (int land : new int[] {-1, 3, 7, LEAST, MOST}) {
                Edge.no(x, x.road(land, 0, 1, 1), 1);
                Edge.no(x, x.road(0, land, 1, 1), 1);
                Edge.no(x, x.road(0, land, -1, 1), 1);
            }
        });
        Edge.of(13, "6: there is none", () -> {
            PostUnion x = Check.union(3);
            Edge.no(x, x.road(0, 1, -1, 0), 6);
            x.road(0, 1, 1, 1);
            Edge.no(x, x.road(0, 2, -1, 0), 6);
            Edge.yes(x, x.road(0, 1, -1, 0));
            Edge.no(x, x.road(1, 0, -1, 0), 6);
        });
    }
}
