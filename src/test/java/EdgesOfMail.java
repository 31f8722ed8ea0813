/** Promises 21 to 32, and what the terms say of MAIL, WAYS, letters that are CARRIED, and RATES. */
final class EdgesOfMail {
    private static final int LEAST = Integer.MIN_VALUE;
    private static final int MOST = Integer.MAX_VALUE;

    private EdgesOfMail() {
    }

    static void run() {
        mail();
        clauses();
        variables();
        ways();
        best();
        carriedTerms();
        rateTerms();
        due();
        third();
        price();
        way();
        carried();
        remailed();
        gain();
        rates();
    }

    /** So many LANDS in a row, each ROAD of 1 DAY and so much FREIGHT. */
    private static PostUnion row(int lands, int freight) {
        PostUnion x = Check.union(lands);
        for (int land = 1; land < lands; land++) {
            x.road(land - 1, land, 1, freight);
        }
        return x;
    }

    private static PostUnion under(int lands, String text) {
        PostUnion x = Check.union(lands);
        Check.treaty(x, text, 0);
        return x;
    }

    private static long due(PostUnion x, int from, int to) {
        return x.due(from, to, 0, 1, 1, 0, 0);
    }

    /** All calls that ask for MAIL; those of a WAY go from 0 over 1 to 2. */
    private static void asksForMail(int status, int size, int weight, int pieces) {
        PostUnion x = row(3, 1);
        Check.treaty(x, "a:due gives 1;b:third gives 1;", 0);
        x.due(0, 2, size, weight, pieces, 0, 1);
        Edge.is("due", x.status(), status);
        x.dueBy(0, 2, size, weight, pieces, 0, 1);
        Edge.is("dueBy", x.status(), status);
        x.third(0, 2, 1, size, weight, pieces, 0, 1);
        Edge.is("third", x.status(), status);
        x.price(0, 2, size, weight, pieces, 0);
        Edge.is("price", x.status(), status);
        x.way(0, 2, size, weight, pieces, 0, 0);
        Edge.is("way", x.status(), status);
        x.remailed(0, 2, size, weight, pieces, 0);
        Edge.is("remailed", x.status(), status);
        x.remailer(0, 2, size, weight, pieces, 0);
        Edge.is("remailer", x.status(), status);
        x.gain(0, 2, size, weight, pieces, 0);
        Edge.is("gain", x.status(), status);
    }

    /** All of them again: with one LAND that is none, or with like ones. */
    private static void asksForLands(int from, int to) {
        PostUnion x = row(3, 1);
        Edge.none(x, x.due(from, to, 0, 1, 1, 0, 1), 1);
        Edge.none(x, x.dueBy(from, to, 0, 1, 1, 0, 1), 1);
        Edge.none(x, x.third(from, to, 1, 0, 1, 1, 0, 1), 1);
        Edge.none(x, x.price(from, to, 0, 1, 1, 0), 1);
        Edge.none(x, x.way(from, to, 0, 1, 1, 0, 0), 1);
        Edge.none(x, x.remailed(from, to, 0, 1, 1, 0), 1);
        Edge.none(x, x.remailer(from, to, 0, 1, 1, 0), 1);
        Edge.none(x, x.gain(from, to, 0, 1, 1, 0), 1);
    }

    private static void mail() {
        Edge.of(0, "MAIL: from a LAND to another one", () -> {
            for (int land = 0; land < 3; land++) {
                asksForLands(land, land);
            }
            for (int land : new int[] {-1, 3, 7, LEAST, MOST}) {
                asksForLands(land, 2);
                asksForLands(0, land);
            }
        });
        Edge.of(0, "size 0 to 3", () -> {
            asksForMail(0, 0, 1, 1);
            asksForMail(0, 3, 1, 1);
            for (int size : new int[] {-1, 4, LEAST, MOST}) {
                asksForMail(1, size, 1, 1);
            }
        });
        Edge.of(0, "weight in grams (1 to 1,000,000,000)", () -> {
            asksForMail(0, 0, 1, 1);
            asksForMail(0, 0, 1_000_000_000, 1);
            for (int weight : new int[] {0, -1, 1_000_000_001, LEAST, MOST}) {
                asksForMail(1, 0, weight, 1);
            }
        });
        Edge.of(0, "pieces (1 to 1,000,000), on a DAY.", () -> {
            asksForMail(0, 0, 1, 1);
            asksForMail(0, 0, 1, 1_000_000);
            for (int pieces : new int[] {0, -1, 1_000_001, LEAST, MOST}) {
                asksForMail(1, 0, 1, pieces);
            }
        });
    }

    private static void clauses() {
        Edge.of(0, "DUE of it: of the TREATY in force the first CLAUSE, by its text, that is a due one", () -> {
            PostUnion x = under(2, "z:third gives 9;b:due gives 2;a:due gives 1;");
            Edge.gives(x, due(x, 0, 1), 2);
            Edge.gives(x, x.dueBy(0, 1, 0, 1, 1, 0, 0), 1);
            Check.treaty(x, "c:due gives 3;", 1);
            Edge.gives(x, x.due(0, 1, 0, 1, 1, 364, 0), 2);
            Edge.gives(x, x.due(0, 1, 0, 1, 1, 365, 0), 3);
        });
        Edge.of(0, "for its from and to (if LISTS tell any)", () -> {
            PostUnion x = under(7, "a:due from 0,6 to 6,0 gives 1;b:due from 1 gives 2;c:due to 1 gives 3;");
            Edge.gives(x, due(x, 0, 6), 1);
            Edge.gives(x, due(x, 6, 0), 1);
            Edge.gives(x, due(x, 1, 0), 2);
            Edge.gives(x, due(x, 0, 1), 3);
            Edge.gives(x, due(x, 2, 6), 0);
            Edge.gives(x, due(x, 6, 2), 0);
            PostUnion y = under(2, "a:due gives 4;");
            Edge.gives(y, due(y, 1, 0), 4);
        });
        Edge.of(0, "of which the TEST holds (or there is none)", () -> {
            PostUnion x = under(2, "a:due when weight>10 gives 1;b:due when weight=10 gives 2;c:due gives 3;");
            Edge.gives(x, x.due(0, 1, 0, 9, 1, 0, 0), 3);
            Edge.gives(x, x.due(0, 1, 0, 10, 1, 0, 0), 2);
            Edge.gives(x, x.due(0, 1, 0, 11, 1, 0, 0), 1);
        });
        Edge.of(0, "and of which neither LAND is out on the DAY", () -> {
            PostUnion x = under(3, "a:due gives 1;b:due gives 2;");
            x.reserve(0, 0, 0, 5, true);
            Edge.gives(x, x.due(0, 1, 0, 1, 1, 4, 0), 1);
            Edge.gives(x, x.due(0, 1, 0, 1, 1, 5, 0), 2);
            Edge.gives(x, x.due(1, 0, 0, 1, 1, 5, 0), 2);
            Edge.gives(x, x.due(1, 2, 0, 1, 1, 5, 0), 1);
        });
        Edge.of(0, "its SUM, cut to 0 to 1,000,000,000,000", () -> {
            String[] sums = {"0-1", "0", "1000000*1000000-1", "1000000*1000000", "1000000*1000000+1", "9999999*9999999", "4194304*1048576*1048576*2"};
            long[] want = {0, 0, 999_999_999_999L, 1_000_000_000_000L, 1_000_000_000_000L, 1_000_000_000_000L, 0};
            for (int k = 0; k < sums.length; k++) {
                PostUnion x = under(3, "a:due gives " + sums[k] + ";b:third gives " + sums[k] + ";");
                Edge.gives(x, due(x, 0, 1), want[k]);
                Edge.gives(x, x.third(0, 1, 2, 0, 1, 1, 0, 1), want[k]);
            }
        });
        Edge.of(0, "0 without any.", () -> {
            PostUnion x = under(3, "a:due when 1=2 gives 9;");
            Edge.gives(x, due(x, 0, 1), 0);
            Edge.gives(x, x.third(0, 1, 2, 0, 1, 1, 0, 1), 0);
            PostUnion y = Check.union(3);
            Edge.gives(y, due(y, 0, 1), 0);
            Edge.gives(y, y.third(0, 1, 2, 0, 1, 1, 0, 1), 0);
        });
        Edge.of(0, "It is owed by the LAND from which to that to which it goes.", () -> {
            PostUnion x = row(2, 0);
            Check.treaty(x, "a:due gives 7;", 0);
            EdgesOfFlows.flow(x, 0, 1, 1, 1);
            x.account(0, false);
            Edge.gives(x, x.owes(0, 1), 7);
            Edge.gives(x, x.owes(1, 0), 0);
        });
        Edge.of(0, "THIRD of a LAND between: likewise of third CLAUSES, of which neither the LAND from which it goes nor that between is out", () -> {
            PostUnion x = under(4, "d:due gives 9;a:third from 0 to 2 gives 1;b:third gives 2;");
            Edge.gives(x, x.third(0, 2, 1, 0, 1, 1, 0, 1), 1);
            Edge.gives(x, x.third(1, 2, 0, 0, 1, 1, 0, 1), 2);
            x.reserve(0, 0, 1, 10, true);
            Edge.gives(x, x.third(0, 2, 1, 0, 1, 1, 10, 1), 2);
            x.reserve(0, 0, 1, 20, false);
            x.reserve(1, 0, 1, 20, true);
            Edge.gives(x, x.third(0, 2, 1, 0, 1, 1, 20, 1), 2);
            Edge.gives(x, x.third(0, 2, 3, 0, 1, 1, 20, 1), 1);
            x.reserve(1, 0, 1, 30, false);
            x.reserve(2, 0, 1, 30, true);
            Edge.gives(x, x.third(0, 2, 1, 0, 1, 1, 30, 1), 1);
        });
        Edge.of(0, "owed to that between.", () -> {
            PostUnion x = row(3, 0);
            Check.treaty(x, "a:third gives 7;", 0);
            EdgesOfFlows.flow(x, 0, 2, 1, 1);
            x.account(0, false);
            Edge.gives(x, x.owes(0, 1), 7);
            Edge.gives(x, x.owes(0, 2), 0);
            Edge.gives(x, x.owes(2, 1), 0);
        });
    }

    private static void variables() {
        Edge.of(0, "VARIABLES: weight, pieces, size, heap (weight by pieces), year", () -> {
            PostUnion x = under(2, "a:due when size=0 gives weight;b:due when size=1 gives pieces;c:due when size=2 gives heap;d:due gives year*10+size;");
            Edge.gives(x, x.due(0, 1, 0, 1_000_000_000, 7, 0, 0), 1_000_000_000);
            Edge.gives(x, x.due(0, 1, 1, 1, 1_000_000, 0, 0), 1_000_000);
            Edge.gives(x, x.due(0, 1, 2, 1_000_000_000, 7, 0, 0), 142_857_142);
            Edge.gives(x, x.due(0, 1, 2, 6, 7, 0, 0), 0);
            Edge.gives(x, x.due(0, 1, 2, 6, 1, 0, 0), 6);
            Edge.gives(x, x.due(0, 1, 3, 1, 1, 9_999, 0), 273);
        });
        Edge.of(0, "thirds (how many LANDS lie between)", () -> {
            PostUnion x = row(5, 0);
            Check.treaty(x, "a:due gives 100+thirds;b:third gives 10*thirds;", 0);
            for (int thirds = 0; thirds < 4; thirds++) {
                Edge.gives(x, x.due(0, 1, 0, 1, 1, 0, thirds), 100 + thirds);
                Edge.gives(x, x.price(0, 1 + thirds, 0, 1, 1, 0), 100 + thirds + 10 * thirds * thirds);
            }
            Edge.gives(x, x.third(0, 4, 1, 0, 1, 1, 0, 3), 30);
        });
        Edge.of(0, "via (the LAND between; of a due one -1).", () -> {
            PostUnion x = under(7, "a:due gives via+1;b:due gives 9;c:third gives via;");
            Edge.gives(x, due(x, 0, 1), 0);
            Edge.gives(x, x.due(0, 1, 0, 1, 1, 0, 3), 0);
            Edge.gives(x, x.third(1, 2, 0, 0, 1, 1, 0, 1), 0);
            Edge.gives(x, x.third(1, 2, 6, 0, 1, 1, 0, 1), 6);
            PostUnion y = under(2, "a:due when via=0-1 gives 5;");
            Edge.gives(y, due(y, 0, 1), 5);
        });
    }

    private static void ways() {
        Edge.of(0, "A WAY: LANDS one behind the other, by ROADS, none twice, at most 3 between.", () -> {
            PostUnion x = row(6, 0);
            Edge.gives(x, x.way(0, 4, 0, 1, 1, 0, 0), 5);
            Edge.gives(x, x.way(4, 0, 0, 1, 1, 0, 6), 0);
            Edge.none(x, x.price(0, 5, 0, 1, 1, 0), 6);
            x.road(0, 2, 60, 10_000);
            Edge.gives(x, x.way(0, 5, 0, 1, 1, 0, 0), 5);
        });
        Edge.of(0, "none twice", () -> {
            PostUnion x = row(3, 0);
            Check.treaty(x, "a:due when thirds<2 gives 1000;", 0);
            Edge.gives(x, x.way(0, 2, 0, 1, 1, 0, 0), 3);
            Edge.gives(x, x.price(0, 2, 0, 1, 1, 0), 1_000);
            PostUnion y = row(3, 0);
            Check.treaty(y, "a:due when thirds<2 gives 1000;", 0);
            Edge.gives(y, y.price(1, 2, 0, 1, 1, 0), 1_000);
            Edge.gives(y, y.way(1, 0, 0, 1, 1, 0, 0), 2);
        });
        Edge.of(0, "PRICE of MAIL by a WAY: DUE, all THIRDS", () -> {
            PostUnion x = Check.union(3);
            x.road(0, 1, 1, 0);
            x.road(0, 2, 1, 0);
            Check.treaty(x, "a:due gives 10;b:third gives 3+via;", 0);
            Edge.gives(x, x.price(1, 2, 0, 1, 1, 0), 13);
            Edge.gives(x, x.price(0, 2, 0, 1, 1, 0), 10);
            Edge.gives(x, x.price(2, 1, 0, 1, 1, 0), 13);
            x.road(0, 1, -1, 0);
            x.road(1, 2, 1, 0);
            Edge.gives(x, x.price(0, 1, 0, 1, 1, 0), 15);
        });
        Edge.of(0, "PRICE of MAIL by a WAY: DUE, all THIRDS", () -> {
            PostUnion x = row(5, 0);
            Check.treaty(x, "a:due gives 1000;b:third gives 100+via;", 0);
            Edge.gives(x, x.price(0, 1, 0, 1, 1, 0), 1_000);
            Edge.gives(x, x.price(0, 2, 0, 1, 1, 0), 1_101);
            Edge.gives(x, x.price(0, 4, 0, 1, 1, 0), 1_306);
        });
        Edge.of(0, "PRICE of MAIL by a WAY: DUE, all THIRDS", () -> {
            PostUnion x = row(5, 10_000);
            Check.treaty(x, "a:due gives 9999999*9999999;b:third gives 9999999*9999999;", 0);
            Edge.gives(x, x.price(0, 4, 3, 1_000_000_000, 1_000_000, 9_999), 4_040_000_000_000L);
        });
        Edge.of(0, "and for each ROAD weight times FREIGHT by 1,000, rounded down.", () -> {
            PostUnion x = row(3, 1);
            Edge.gives(x, x.price(0, 1, 0, 999, 1, 0), 0);
            Edge.gives(x, x.price(0, 1, 0, 1_000, 1, 0), 1);
            Edge.gives(x, x.price(0, 2, 0, 999, 1, 0), 0);
            Edge.gives(x, x.price(0, 2, 0, 1_999, 1, 0), 2);
            x.road(0, 1, 1, 10_000);
            Edge.gives(x, x.price(0, 1, 0, 1_000_000_000, 1, 0), 10_000_000_000L);
        });
    }

    private static void best() {
        Edge.of(0, "BEST is the WAY with the least PRICE", () -> {
            PostUnion x = Check.union(3);
            x.road(0, 2, 1, 10);
            x.road(0, 1, 60, 5);
            x.road(1, 2, 60, 4);
            Edge.gives(x, x.way(0, 2, 0, 1_000, 1, 0, 0), 3);
            x.road(1, 2, 60, 6);
            Edge.gives(x, x.way(0, 2, 0, 1_000, 1, 0, 0), 2);
        });
        Edge.of(0, "then that of the fewest DAYS of ROADS", () -> {
            PostUnion x = Check.union(4);
            x.road(0, 1, 5, 10);
            x.road(1, 3, 6, 10);
            x.road(0, 2, 5, 10);
            x.road(2, 3, 5, 10);
            Edge.gives(x, x.way(0, 3, 0, 1_000, 1, 0, 3), 2);
            x.road(1, 3, 5, 10);
            Edge.gives(x, x.way(0, 3, 0, 1_000, 1, 0, 3), 1);
            x.road(0, 3, 10, 20);
            Edge.gives(x, x.way(0, 3, 0, 1_000, 1, 0, 0), 3);
            x.road(0, 3, 9, 20);
            Edge.gives(x, x.way(0, 3, 0, 1_000, 1, 0, 0), 2);
        });
        Edge.of(0, "of several the first: LAND by LAND, the lesser number ahead.", () -> {
            PostUnion x = Check.union(5);
            x.road(0, 4, 2, 0);
            x.road(0, 3, 1, 0);
            x.road(3, 4, 1, 0);
            Edge.gives(x, x.way(0, 4, 0, 1, 1, 0, 3), 3);
            x.road(0, 2, 1, 0);
            x.road(2, 4, 1, 0);
            Edge.gives(x, x.way(0, 4, 0, 1, 1, 0, 3), 2);
            Edge.gives(x, x.way(4, 0, 0, 1, 1, 0, 0), 2);
        });
    }

    private static void carriedTerms() {
        Edge.of(0, "CARRIED are letters, not as MAIL, over any ROADS: by the least FREIGHT of a kilogram", () -> {
            PostUnion x = row(7, 10_000);
            Check.treaty(x, "a:due gives 5;b:third gives 5;", 0);
            Edge.gives(x, x.carried(0, 6), 60_000);
            x.road(0, 6, 60, 10_000);
            Edge.gives(x, x.carried(0, 6), 10_000);
            Edge.gives(x, x.carried(0, 5), 20_000);
            for (int hub = 0; hub < 7; hub++) {
                PostUnion star = Check.union(7);
                for (int land = 0; land < 7; land++) {
                    star.road(hub, land, 1, 1 + land);
                }
                int a = (hub + 1) % 7;
                int b = (hub + 2) % 7;
                Edge.gives(star, star.carried(a, b), 2 + a + b);
                Edge.gives(star, star.carried(b, a), 2 + a + b);
            }
        });
        Edge.of(0, "times weight by 1,000, rounded down.", () -> {
            PostUnion x = row(4, 1);
            Check.treaty(x, "a:due from 2 gives 0;b:due gives 100;", 0);
            Edge.gives(x, x.remailed(0, 3, 0, 499, 1, 0), 0);
            Edge.gives(x, x.remailed(0, 3, 0, 500, 1, 0), 1);
            Edge.gives(x, x.remailed(0, 3, 0, 999, 1, 0), 1);
        });
        Edge.of(0, "REMAILED in another LAND (neither from nor to): CARRIED to there, then by the BEST WAY from there.", () -> {
            PostUnion x = row(2, 3);
            Edge.none(x, x.remailed(0, 1, 0, 1_000, 1, 0), 6);
            x.land();
            Edge.none(x, x.remailed(0, 1, 0, 1_000, 1, 0), 6);
            x.road(2, 0, 1, 4);
            Edge.gives(x, x.remailed(0, 1, 0, 1_000, 1, 0), 11);
            x.road(2, 0, -1, 4);
            x.road(1, 2, 1, 4);
            Edge.gives(x, x.remailed(0, 1, 0, 1_000, 1, 0), 11);
        });
        Edge.of(0, "GAIN: PRICE of BEST from the LAND itself less the least PRICE REMAILED (and by which LAND: of several the lesser).", () -> {
            PostUnion x = Check.union(4);
            x.road(0, 3, 1, 100);
            for (int abroad = 1; abroad < 3; abroad++) {
                x.road(0, abroad, 1, 10);
                x.road(abroad, 3, 1, 10);
            }
            Check.treaty(x, "a:due from 0 gives 500;", 0);
            Edge.gives(x, x.gain(0, 3, 0, 1_000, 1, 0), 520 - 20);
            Edge.gives(x, x.remailer(0, 3, 0, 1_000, 1, 0), 1);
            x.road(1, 3, 1, 11);
            Edge.gives(x, x.remailer(0, 3, 0, 1_000, 1, 0), 2);
            PostUnion y = row(3, 1);
            Edge.gives(y, y.remailer(1, 2, 0, 1_000, 1, 0), 0);
            Edge.gives(y, y.gain(1, 2, 0, 1_000, 1, 0), -2);
        });
        Edge.of(0, "There may be none.", () -> {
            PostUnion x = row(2, 0);
            Edge.gives(x, x.price(0, 1, 0, 1, 1, 0), 0);
            Edge.none(x, x.gain(0, 1, 0, 1, 1, 0), 6);
            Edge.none(x, x.remailer(0, 1, 0, 1, 1, 0), 6);
        });
    }

    private static void rateTerms() {
        Edge.of(0, "RATES are told besides: of a kilogram from a LAND to another one (0 to 1,000,000,000; 0 at first).", () -> {
            PostUnion x = Check.union(2);
            Edge.gives(x, x.even(0, 1), 0);
            Edge.yes(x, x.rate(0, 1, 1_000_000_000));
            Edge.gives(x, x.even(0, 1), 1_000_000_000);
            Edge.gives(x, x.even(1, 0), 0);
            Edge.yes(x, x.rate(0, 1, 0));
            Edge.gives(x, x.even(0, 1), 0);
        });
        Edge.of(0, "EVEN are the greatest RATES, none above those told", () -> {
            PostUnion x = row(3, 100);
            x.rate(0, 2, 300);
            x.rate(1, 2, 200);
            Edge.gives(x, x.even(0, 2), 300);
            x.rate(1, 2, 201);
            Edge.gives(x, x.even(0, 2), 300);
            x.rate(1, 2, 199);
            Edge.gives(x, x.even(0, 2), 299);
        });
        Edge.of(0, "so that from no LAND it is less to have a kilogram CARRIED to another one (not that to which it goes)", () -> {
            PostUnion x = row(2, 5);
            x.rate(0, 1, 900);
            Edge.gives(x, x.even(0, 1), 900);
            x.land();
            x.road(1, 2, 1, 1);
            Edge.gives(x, x.even(0, 1), 6);
            x.rate(2, 1, 800);
            Edge.gives(x, x.even(0, 1), 806);
            x.rate(0, 1, 10);
            Edge.gives(x, x.even(2, 1), 16);
        });
        Edge.of(0, "and to post it there, both by EVEN.", () -> {
            PostUnion x = row(7, 10);
            for (int land = 0; land < 5; land++) {
                x.rate(land, 6, 1_000_000_000);
            }
            x.rate(5, 6, 7);
            for (int land = 0; land < 6; land++) {
                Edge.gives(x, x.even(land, 6), 10 * (5 - land) + 7);
            }
        });
    }

    private static void due() {
        Edge.of(21, "DUE of MAIL that goes over so many LANDS between (0 to 3)", () -> {
            PostUnion x = under(2, "a:due gives thirds+7;");
            Edge.gives(x, x.due(0, 1, 0, 1, 1, 0, 0), 7);
            Edge.gives(x, x.due(0, 1, 0, 1, 1, 0, 3), 10);
            for (int thirds : new int[] {-1, 4, LEAST, MOST}) {
                Edge.none(x, x.due(0, 1, 0, 1, 1, 0, thirds), 1);
            }
        });
        Edge.of(21, "(1: like LANDS, too)", () -> {
            PostUnion x = Check.union(2);
            Edge.none(x, x.due(0, 0, 0, 1, 1, 0, 0), 1);
            Edge.none(x, x.due(1, 1, 0, 1, 1, 0, 0), 1);
            Edge.none(x, x.due(2, 0, 0, 1, 1, 0, 0), 1);
            Edge.none(x, x.due(0, -1, 0, 1, 1, 0, 0), 1);
        });
        Edge.of(22, "The CLAUSE by which it is that", () -> {
            StringBuilder text = new StringBuilder();
            for (int k = 0; k < 12; k++) {
                text.append((char) ('a' + k)).append(":due when weight=").append(k + 1).append(" gives 0;");
            }
            PostUnion x = under(2, text.toString());
            Edge.gives(x, x.dueBy(0, 1, 0, 1, 1, 0, 0), 0);
            Edge.gives(x, x.dueBy(0, 1, 0, 12, 1, 0, 3), 11);
            PostUnion y = under(2, "a:due when thirds=3 gives 1;b:due when thirds=0 and via<0 gives 2;");
            Edge.gives(y, y.dueBy(0, 1, 0, 1, 1, 0, 3), 0);
            Edge.none(y, y.dueBy(0, 1, 0, 1, 1, 0, 2), 6);
            Edge.gives(y, y.dueBy(0, 1, 0, 1, 1, 0, 0), 1);
        });
        Edge.of(22, "(1, 6: none)", () -> {
            PostUnion x = under(2, "a:due gives 1;");
            Edge.none(x, x.dueBy(1, 1, 0, 1, 1, 0, 0), 1);
            for (int thirds : new int[] {-1, 4, LEAST, MOST}) {
                Edge.none(x, x.dueBy(0, 1, 0, 1, 1, 0, thirds), 1);
            }
        });
        Edge.of(22, "(1, 6: none)", () -> {
            PostUnion x = Check.union(2);
            Edge.none(x, x.dueBy(0, 1, 0, 1, 1, 0, 0), 6);
            Check.treaty(x, "a:due when weight>1 gives 1;b:third gives 1;", 1);
            Edge.none(x, x.dueBy(0, 1, 0, 2, 1, 364, 0), 6);
            Edge.none(x, x.dueBy(0, 1, 0, 1, 1, 365, 0), 6);
            Edge.gives(x, x.dueBy(0, 1, 0, 2, 1, 365, 0), 0);
            Edge.gives(x, x.due(0, 1, 0, 1, 1, 365, 0), 0);
        });
    }

    private static void third() {
        Edge.of(23, "THIRD of a LAND between", () -> {
            PostUnion x = under(7, "a:due gives 1;b:third gives 100*via+thirds;");
            Edge.gives(x, x.third(0, 1, 6, 0, 1, 1, 0, 1), 601);
            Edge.gives(x, x.third(6, 1, 0, 0, 1, 1, 0, 3), 3);
        });
        Edge.of(23, "1: like LANDS, too", () -> {
            PostUnion x = Check.union(3);
            Edge.none(x, x.third(0, 0, 1, 0, 1, 1, 0, 1), 1);
            Edge.none(x, x.third(0, 1, 0, 0, 1, 1, 0, 1), 1);
            Edge.none(x, x.third(0, 1, 1, 0, 1, 1, 0, 1), 1);
            for (int land : new int[] {-1, 3, LEAST, MOST}) {
                Edge.none(x, x.third(land, 1, 2, 0, 1, 1, 0, 1), 1);
                Edge.none(x, x.third(0, land, 2, 0, 1, 1, 0, 1), 1);
                Edge.none(x, x.third(0, 1, land, 0, 1, 1, 0, 1), 1);
            }
        });
        Edge.of(23, "thirds 1 to 3", () -> {
            PostUnion x = under(3, "a:third gives thirds;");
            Edge.gives(x, x.third(0, 1, 2, 0, 1, 1, 0, 1), 1);
            Edge.gives(x, x.third(0, 1, 2, 0, 1, 1, 0, 3), 3);
            for (int thirds : new int[] {0, 4, -1, LEAST, MOST}) {
                Edge.none(x, x.third(0, 1, 2, 0, 1, 1, 0, thirds), 1);
            }
        });
    }

    private static void price() {
        Edge.of(24, "PRICE of BEST", () -> {
            PostUnion x = Check.union(3);
            x.road(0, 2, 1, 12);
            x.road(0, 1, 1, 5);
            x.road(1, 2, 1, 5);
            Edge.gives(x, x.price(0, 2, 0, 1_000, 1, 0), 10);
            Edge.gives(x, x.price(0, 2, 0, 1, 1, 0), 0);
        });
        Edge.of(24, "(1: like LANDS, too; 6)", () -> {
            PostUnion x = row(2, 1);
            Edge.none(x, x.price(0, 0, 0, 1, 1, 0), 1);
            Edge.none(x, x.price(0, 2, 0, 1, 1, 0), 1);
        });
        Edge.of(24, "(1: like LANDS, too; 6)", () -> {
            PostUnion x = Check.union(2);
            Edge.none(x, x.price(0, 1, 0, 1, 1, 0), 6);
            x.road(0, 1, 1, 1);
            Edge.gives(x, x.price(0, 1, 0, 1, 1, 0), 0);
            x.road(0, 1, -1, 1);
            Edge.none(x, x.price(0, 1, 0, 1, 1, 0), 6);
        });
    }

    private static void way() {
        Edge.of(25, "Of BEST, what 0: how many LANDS it has, 1: DAYS, 2 to 6: its LANDS one by one", () -> {
            PostUnion x = Check.union(5);
            int[] lands = {4, 0, 3, 1, 2};
            for (int k = 1; k < 5; k++) {
                x.road(lands[k - 1], lands[k], 60, 0);
            }
            Edge.gives(x, x.way(4, 2, 0, 1, 1, 0, 0), 5);
            Edge.gives(x, x.way(4, 2, 0, 1, 1, 0, 1), 240);
            for (int k = 0; k < 5; k++) {
                Edge.gives(x, x.way(4, 2, 0, 1, 1, 0, 2 + k), lands[k]);
            }
        });
        Edge.of(25, "1: like LANDS, too", () -> {
            PostUnion x = row(2, 1);
            Edge.none(x, x.way(1, 1, 0, 1, 1, 0, 0), 1);
            for (int what : new int[] {-1, 7, LEAST, MOST}) {
                Edge.none(x, x.way(0, 1, 0, 1, 1, 0, what), 1);
            }
            PostUnion y = Check.union(2);
            Edge.none(y, y.way(0, 1, 0, 1, 1, 0, 7), 1);
        });
        Edge.of(25, "6: no WAY, or no such LAND in it", () -> {
            PostUnion x = Check.union(3);
            for (int what = 0; what < 7; what++) {
                Edge.none(x, x.way(0, 1, 0, 1, 1, 0, what), 6);
            }
            x.road(0, 1, 1, 1);
            Edge.gives(x, x.way(0, 1, 0, 1, 1, 0, 3), 1);
            for (int what = 4; what < 7; what++) {
                Edge.none(x, x.way(0, 1, 0, 1, 1, 0, what), 6);
            }
            x.road(1, 2, 1, 1);
            Edge.gives(x, x.way(0, 2, 0, 1, 1, 0, 4), 2);
            Edge.none(x, x.way(0, 2, 0, 1, 1, 0, 5), 6);
        });
    }

    private static void carried() {
        Edge.of(26, "The least FREIGHT by which a kilogram is CARRIED (0 for like LANDS)", () -> {
            PostUnion x = row(3, 7);
            Edge.gives(x, x.carried(0, 2), 14);
            for (int land = 0; land < 3; land++) {
                Edge.gives(x, x.carried(land, land), 0);
            }
            PostUnion y = Check.union(1);
            Edge.gives(y, y.carried(0, 0), 0);
        });
        Edge.of(26, "(1, 6: there are no ROADS)", () -> {
            PostUnion x = row(2, 7);
            for (int land : new int[] {-1, 2, 7, LEAST, MOST}) {
                Edge.none(x, x.carried(land, 0), 1);
                Edge.none(x, x.carried(0, land), 1);
                Edge.none(x, x.carried(land, land), 1);
            }
        });
        Edge.of(26, "(1, 6: there are no ROADS)", () -> {
            PostUnion none = Check.union(2);
            Edge.none(none, none.carried(0, 1), 6);
            PostUnion x = row(7, 10_000);
            x.road(2, 3, -1, 0);
            Edge.none(x, x.carried(0, 6), 6);
            Edge.none(x, x.carried(3, 2), 6);
            Edge.gives(x, x.carried(3, 6), 30_000);
        });
    }

    private static void remailed() {
        Edge.of(27, "The least PRICE REMAILED", () -> {
            PostUnion x = row(4, 5);
            Edge.gives(x, x.remailed(0, 3, 0, 1_000, 1, 0), 15);
            x.road(0, 2, 1, 1);
            Edge.gives(x, x.remailed(0, 3, 0, 1_000, 1, 0), 6);
        });
        Edge.of(27, "(1: like LANDS, too; 6: there is no LAND for that)", () -> {
            PostUnion x = row(3, 5);
            Edge.none(x, x.remailed(1, 1, 0, 1, 1, 0), 1);
            Edge.none(x, x.remailed(1, 3, 0, 1, 1, 0), 1);
        });
        Edge.of(27, "(1: like LANDS, too; 6: there is no LAND for that)", () -> {
            PostUnion x = row(2, 5);
            Edge.none(x, x.remailed(0, 1, 0, 1, 1, 0), 6);
            PostUnion far = row(7, 5);
            far.road(0, 1, -1, 0);
            Edge.none(far, far.remailed(0, 1, 0, 1, 1, 0), 6);
        });
        Edge.of(28, "By which LAND that is", () -> {
            PostUnion x = row(7, 1);
            Edge.gives(x, x.remailer(0, 6, 0, 1_000, 1, 0), 2);
            Edge.gives(x, x.remailer(6, 0, 0, 1_000, 1, 0), 1);
        });
        Edge.of(28, "(1, 6)", () -> {
            PostUnion x = row(3, 1);
            Edge.none(x, x.remailer(0, 0, 0, 1, 1, 0), 1);
            Edge.none(x, x.remailer(-1, 0, 0, 1, 1, 0), 1);
        });
        Edge.of(28, "(1, 6)", () -> {
            PostUnion x = Check.union(3);
            Edge.none(x, x.remailer(0, 1, 0, 1, 1, 0), 6);
            x.road(0, 1, 1, 1);
            Edge.none(x, x.remailer(0, 1, 0, 1, 1, 0), 6);
            x.road(0, 2, 1, 1);
            Edge.gives(x, x.remailer(0, 1, 0, 1, 1, 0), 2);
        });
    }

    private static void gain() {
        Edge.of(29, "GAIN; STATUS tells NONE from -1", () -> {
            PostUnion x = row(3, 0);
            Check.treaty(x, "a:due from 1 gives 1;", 0);
            Edge.gives(x, x.gain(0, 2, 0, 1, 1, 0), -1);
            x.reserve(1, 0, 0, 9, true);
            Edge.gives(x, x.gain(0, 2, 0, 1, 1, 9), 0);
            Edge.none(x, x.gain(0, 3, 0, 1, 1, 0), 1);
        });
        Edge.of(29, "(1; 6: also no WAY)", () -> {
            PostUnion x = row(3, 0);
            Edge.none(x, x.gain(2, 2, 0, 1, 1, 0), 1);
            Edge.none(x, x.gain(0, 2, 0, 1, 1, 10_000), 1);
        });
        Edge.of(29, "(1; 6: also no WAY)", () -> {
            PostUnion x = row(6, 0);
            Edge.gives(x, x.remailed(0, 5, 0, 1, 1, 0), 0);
            Edge.none(x, x.price(0, 5, 0, 1, 1, 0), 6);
            Edge.none(x, x.gain(0, 5, 0, 1, 1, 0), 6);
        });
        Edge.of(29, "(1; 6: also no WAY)", () -> {
            PostUnion x = row(2, 0);
            Edge.none(x, x.gain(0, 1, 0, 1, 1, 0), 6);
        });
    }

    private static void rates() {
        Edge.of(30, "RATE", () -> {
            PostUnion x = Check.union(2);
            Edge.yes(x, x.rate(1, 0, 1));
            Edge.gives(x, x.even(1, 0), 1);
            Edge.gives(x, x.even(0, 1), 0);
            Edge.yes(x, x.rate(1, 0, 9));
            Edge.gives(x, x.even(1, 0), 9);
        });
        Edge.of(30, "(1: like LANDS, too)", () -> {
            PostUnion x = Check.union(2);
            Edge.no(x, x.rate(0, 0, 1), 1);
            for (int land : new int[] {-1, 2, 7, LEAST, MOST}) {
                Edge.no(x, x.rate(land, 0, 1), 1);
                Edge.no(x, x.rate(0, land, 1), 1);
            }
            for (int price : new int[] {-1, 1_000_000_001, LEAST, MOST}) {
                Edge.no(x, x.rate(0, 1, price), 1);
            }
            Edge.gives(x, x.even(0, 1), 0);
        });
        Edge.of(31, "EVEN of it", () -> {
            PostUnion x = row(3, 10);
            x.rate(0, 2, 15);
            Edge.gives(x, x.even(0, 2), 10);
            x.road(0, 1, 1, 15);
            Edge.gives(x, x.even(0, 2), 15);
            x.road(0, 1, -1, 0);
            Edge.gives(x, x.even(0, 2), 15);
        });
        Edge.of(31, "(1: like LANDS, too)", () -> {
            PostUnion x = Check.union(2);
            Edge.none(x, x.even(1, 1), 1);
            for (int land : new int[] {-1, 2, 7, LEAST, MOST}) {
                Edge.none(x, x.even(land, 0), 1);
                Edge.none(x, x.even(0, land), 1);
            }
        });
        Edge.of(32, "How many of all RATES for two LANDS are above EVEN.", () -> {
            PostUnion none = new PostUnion();
            Edge.gives(none, none.uneven(), 0);
            PostUnion x = row(3, 10);
            Edge.gives(x, x.uneven(), 0);
            x.rate(0, 2, 10);
            Edge.gives(x, x.uneven(), 0);
            x.rate(0, 2, 11);
            Edge.gives(x, x.uneven(), 1);
            x.rate(2, 0, 11);
            Edge.gives(x, x.uneven(), 2);
            x.road(0, 1, -1, 0);
            Edge.gives(x, x.uneven(), 1);
        });
        Edge.of(32, "How many of all RATES for two LANDS are above EVEN.", () -> {
            PostUnion x = row(7, 0);
            for (int from = 0; from < 6; from++) {
                for (int to = 0; to < 7; to++) {
                    x.rate(from, to, 1_000_000_000);
                }
            }
            Edge.gives(x, x.uneven(), 30);
        });
    }
}
