/** Promises 33 to 43, and what the terms say of FLOWS, DRAWS, TELLING and ACCOUNTS. */
final class EdgesOfFlows {
    private static final int LEAST = Integer.MIN_VALUE;
    private static final int MOST = Integer.MAX_VALUE;

    private EdgesOfFlows() {
    }

    static void run() {
        flowTerms();
        drawTerms();
        tellingTerms();
        accountTerms();
        clearedTerms();
        flow();
        isTrue();
        draw();
        told();
        telling();
        account();
        debts();
    }

    /** A FLOW of size 0 that has so many kilograms, all in its last WEEK. */
    static int flow(PostUnion x, int from, int to, int kilograms, int pieces) {
        x.tray(3, 2, 52);
        x.write(3, 51, kilograms);
        return x.flow(from, to, 0, pieces, 3);
    }

    /** TRAY 0 with 52 numbers that are alike. */
    private static PostUnion weeks(int lands, long kilograms) {
        PostUnion x = Check.union(lands);
        x.tray(0, 3, 52);
        x.fill(0, 0, 52, kilograms, 0);
        return x;
    }

    private static void flowTerms() {
        Edge.of(0, "FLOWS, at most 8, numbered as they come: from a LAND to another one, a size", () -> {
            PostUnion x = weeks(2, 1);
            for (int k = 0; k < 8; k++) {
                Edge.gives(x, x.flow(k % 2, 1 - k % 2, k % 4, 1, 0), k);
            }
            Edge.none(x, x.flow(0, 1, 0, 1, 0), 4);
            Edge.none(x, x.isTrue(8), 1);
        });
        Edge.of(0, "from a LAND to another one, a size", () -> {
            PostUnion x = weeks(2, 1);
            x.road(0, 1, 1, 0);
            Check.treaty(x, "a:due gives 10+size;", 0);
            x.flow(0, 1, 3, 1, 0);
            Edge.gives(x, x.account(0, false), 13);
            x.flow(1, 0, 0, 1, 0);
            Edge.gives(x, x.account(0, false), 23);
        });
        Edge.of(0, "so many pieces a kilogram (1 to 100)", () -> {
            PostUnion x = weeks(2, 1);
            Edge.gives(x, x.flow(0, 1, 0, 1, 0), 0);
            Edge.gives(x, x.flow(0, 1, 0, 100, 0), 1);
            for (int pieces : new int[] {0, -1, 101, LEAST, MOST}) {
                Edge.none(x, x.flow(0, 1, 0, pieces, 0), 1);
            }
        });
        Edge.of(0, "and kilograms of each WEEK 0 to 51 (0 to 10,000)", () -> {
            PostUnion x = weeks(2, 0);
            Edge.gives(x, x.flow(0, 1, 0, 1, 0), 0);
            x.fill(0, 0, 52, 10_000, 0);
            Edge.gives(x, x.flow(0, 1, 0, 1, 0), 1);
            Edge.gives(x, x.isTrue(1), 520_000);
            for (int week : new int[] {0, 51}) {
                for (long kilograms : new long[] {-1, 10_001, 1L << 32, Long.MIN_VALUE, Long.MAX_VALUE}) {
                    x.write(0, week, kilograms);
                    Edge.none(x, x.flow(0, 1, 0, 1, 0), 1);
                }
                x.write(0, week, 10_000);
            }
        });
        Edge.of(0, "the first 52 numbers of a TRAY.", () -> {
            PostUnion x = Check.union(2);
            x.tray(0, 2, 60);
            x.fill(0, 0, 52, 1, 0);
            x.fill(0, 52, 8, -1, 0);
            Edge.gives(x, x.flow(0, 1, 0, 1, 0), 0);
            Edge.gives(x, x.isTrue(0), 52);
            x.fill(0, 0, 60, 9, 0);
            Edge.gives(x, x.isTrue(0), 52);
        });
        Edge.of(0, "TRUE: all WEEKS together.", () -> {
            PostUnion x = weeks(2, 0);
            x.write(0, 0, 3);
            x.write(0, 51, 10_000);
            x.flow(0, 1, 0, 1, 0);
            Edge.gives(x, x.isTrue(0), 10_003);
        });
    }

    /** WEEKS of a DRAW, told with numbers that can't run over. */
    private static int[] drawn(int weeks, long seed) {
        int[] all = new int[weeks];
        long now = seed;
        int many = 0;
        for (int week = 0; week < 52; week++) {
            now = (now * 1_103_515_245L + 12_345L) % (1L << 31);
            if (now / 65_536 % (52 - week) < weeks - many) {
                all[many] = week;
                many++;
            }
        }
        Edge.is("the test's own DRAW", many, weeks);
        return all;
    }

    private static void draws(int weeks, int seed) {
        PostUnion x = new PostUnion();
        int[] want = drawn(weeks, seed);
        Edge.gives(x, x.draw(weeks, seed), weeks);
        for (int k = 0; k < weeks; k++) {
            Edge.gives(x, x.drawn(k), want[k]);
        }
        Edge.none(x, x.drawn(weeks), 6);
    }

    private static void drawTerms() {
        Edge.of(0, "A DRAW of w WEEKS (1 to 52)", () -> {
            for (int weeks = 1; weeks <= 52; weeks++) {
                draws(weeks, 20_261_117);
            }
        });
        Edge.of(0, "from a SEED (0 to 2,147,483,647)", () -> {
            draws(13, 0);
            draws(13, MOST);
            PostUnion x = new PostUnion();
            Edge.none(x, x.draw(13, -1), 1);
            Edge.none(x, x.draw(13, LEAST), 1);
        });
        Edge.of(0, "WEEK by WEEK, one is drawn, if LOT, rest m, is below h, where m are left (it too), and h are to be drawn still.", () -> {
            PostUnion x = new PostUnion();
            x.draw(52, 1);
            for (int week = 0; week < 52; week++) {
                Edge.gives(x, x.drawn(week), week);
            }
            for (int seed = 0; seed < 40; seed++) {
                draws(1, seed);
                draws(51, seed);
            }
        });
        Edge.of(0, "LOT: the SEED becomes 1,103,515,245 times itself and 12,345, of that the lower 31 bits, and LOT is that by 65,536, rounded down.", () -> {
            for (int seed : new int[] {1, 65_535, 65_536, 1 << 30, 0x7fff0000, MOST - 1}) {
                draws(26, seed);
            }
        });
        Edge.of(0, "TOLD by some WEEKS: 52 times what a FLOW has in them, by how many they are, rounded down.", () -> {
            PostUnion x = weeks(2, 10_000);
            x.flow(0, 1, 0, 1, 0);
            x.fill(0, 0, 52, 0, 1);
            x.flow(0, 1, 0, 1, 0);
            for (int weeks : new int[] {1, 3, 7, 52}) {
                x.draw(weeks, 99);
                long sum = 0;
                for (int week : drawn(weeks, 99)) {
                    sum += week;
                }
                Edge.gives(x, x.told(0), 520_000);
                Edge.gives(x, x.told(1), 52 * sum / weeks);
            }
        });
    }

    /** Some WEEKS alone tell what is TRUE: all others have so many steps together, which never do. */
    private static void tellsBy(int step, int steps, int[] weeks, int... kilograms) {
        PostUnion x = weeks(2, 0);
        int others = 52 - weeks.length;
        for (int week = 0, k = 0, left = 0; week < 52; week++) {
            if (k < weeks.length && weeks[k] == week) {
                x.write(0, week, kilograms[k]);
                k++;
            } else {
                x.write(0, week, step * (steps / others + (left < steps % others ? 1 : 0)));
                left++;
            }
        }
        x.flow(0, 1, 0, 1, 0);
        Edge.gives(x, x.telling(weeks.length), 0);
        for (int k = 0; k < weeks.length; k++) {
            Edge.gives(x, x.tells(k), weeks[k]);
        }
    }

    private static void tellingTerms() {
        Edge.of(0, "TELLING are w WEEKS (1 to 3)", () -> {
            PostUnion x = weeks(2, 5);
            x.flow(0, 1, 0, 1, 0);
            for (int weeks = 1; weeks <= 3; weeks++) {
                Edge.gives(x, x.telling(weeks), 0);
                Edge.gives(x, x.tells(weeks - 1), weeks - 1);
                Edge.none(x, x.tells(weeks), 6);
            }
        });
        Edge.of(0, "so that the sizes of TOLD less TRUE, of all FLOWS together, are least", () -> {
            PostUnion x = weeks(2, 0);
            x.write(0, 51, 52);
            x.flow(0, 1, 0, 1, 0);
            Edge.gives(x, x.telling(1), 52);
            Edge.gives(x, x.tells(0), 0);
            x.fill(0, 0, 52, 9_999, 0);
            x.write(0, 50, 10_000);
            x.flow(0, 1, 0, 1, 0);
            Edge.gives(x, x.telling(1), 53);
            x.fill(0, 0, 52, 0, 0);
            x.write(0, 51, 100);
            x.flow(0, 1, 0, 1, 0);
            x.fill(0, 0, 52, 200, 0);
            x.write(0, 51, 100);
            x.flow(0, 1, 0, 1, 0);
            Edge.gives(x, x.telling(1), 52 + 1 + 100 + 100);
            Edge.gives(x, x.tells(0), 0);
        });
        Edge.of(0, "so that the sizes of TOLD less TRUE, of all FLOWS together, are least", () -> {
            PostUnion x = weeks(2, 10_000);
            for (int k = 0; k < 8; k++) {
                x.fill(0, 0, 52, 10_000, 0);
                x.fill(0, 51, 1, 0, 0);
                x.flow(0, 1, 0, 1, 0);
            }
            Edge.gives(x, x.telling(1), 80_000);
            Edge.gives(x, x.telling(3), 80_000);
            Edge.gives(x, x.tells(2), 2);
        });
        Edge.of(0, "TELLING are w WEEKS (1 to 3)", () -> {
            PostUnion x = weeks(2, 0);
            x.fill(0, 0, 35, 15, 0);
            x.write(0, 5, 10);
            x.flow(0, 1, 0, 1, 0);
            Edge.gives(x, x.telling(1), 0);
            Edge.gives(x, x.tells(0), 5);
            Edge.gives(x, x.telling(2), 130);
            Edge.is("no WEEK is one of them twice", x.tells(0), 0);
            Edge.is("no WEEK is one of them twice", x.tells(1), 5);
            x.fill(0, 0, 52, 0, 0);
            x.write(0, 9, 3);
            x.write(0, 30, 100);
            x.write(0, 31, 1);
            x.flow(0, 1, 0, 1, 0);
            Edge.gives(x, x.telling(3), 35);
            Edge.is("no WEEK is one of them twice", x.tells(0), 9);
            Edge.is("no WEEK is one of them twice", x.tells(1), 31);
            Edge.is("no WEEK is one of them twice", x.tells(2), 35);
        });
        Edge.of(0, "so that the sizes of TOLD less TRUE, of all FLOWS together, are least", () -> {
            tellsBy(15, 34, new int[] {0}, 10);
            tellsBy(15, 34, new int[] {51}, 10);
            tellsBy(10, 65, new int[] {0, 1}, 3, 23);
            tellsBy(10, 65, new int[] {40, 50}, 3, 23);
            tellsBy(10, 65, new int[] {50, 51}, 3, 23);
            tellsBy(7, 91, new int[] {0, 1, 2}, 1, 15, 23);
            tellsBy(7, 91, new int[] {20, 30, 40}, 1, 15, 23);
            tellsBy(7, 91, new int[] {30, 31, 51}, 1, 15, 23);
            tellsBy(7, 91, new int[] {49, 50, 51}, 1, 15, 23);
        });
        Edge.of(0, "of several the first, by the first WEEK, then the next one.", () -> {
            PostUnion x = weeks(2, 0);
            x.write(0, 49, 17);
            x.write(0, 50, 17);
            x.write(0, 51, 18);
            x.flow(0, 1, 0, 1, 0);
            Edge.gives(x, x.telling(3), 52);
            Edge.gives(x, x.tells(0), 0);
            x.fill(0, 0, 52, 0, 0);
            x.fill(0, 26, 26, 2, 0);
            x.flow(0, 1, 0, 1, 0);
            Edge.gives(x, x.telling(2), 52);
            Edge.gives(x, x.tells(0), 0);
            Edge.gives(x, x.tells(1), 26);
        });
    }

    /** LANDS in a row under a TREATY, by ROADS that cost nothing. */
    private static PostUnion under(int lands, String text) {
        PostUnion x = Check.union(lands);
        for (int land = 1; land < lands; land++) {
            x.road(land - 1, land, 1, 0);
        }
        Check.treaty(x, text, 0);
        return x;
    }

    private static void accountTerms() {
        Edge.of(0, "ACCOUNT of a YEAR, by TRUE weights or by those TOLD by the latest DRAW", () -> {
            PostUnion x = under(2, "a:due gives weight;");
            flow(x, 0, 1, 10, 1);
            Edge.gives(x, x.account(0, false), 10_000);
            x.draw(1, 5);
            int week = drawn(1, 5)[0];
            Edge.gives(x, x.account(0, true), week == 51 ? 520_000 : 0);
            x.draw(52, 5);
            Edge.gives(x, x.account(0, true), 10_000);
            x.draw(51, 7);
            Edge.gives(x, x.account(0, true), drawn(51, 7)[50] == 51 ? 10_000 : 0);
        });
        Edge.of(0, "each FLOW is MAIL of the YEAR's first DAY (365 times it)", () -> {
            PostUnion x = under(2, "a:due gives 100+year;");
            flow(x, 0, 1, 1, 1);
            x.reserve(0, 0, 0, 365, true);
            x.reserve(0, 0, 0, 366, false);
            x.reserve(0, 0, 0, 731, true);
            x.reserve(0, 0, 0, 9_855, false);
            Edge.gives(x, x.account(0, false), 100);
            Edge.gives(x, x.account(1, false), 0);
            Edge.gives(x, x.account(2, false), 102);
            Edge.gives(x, x.account(26, false), 0);
            Edge.gives(x, x.account(27, false), 127);
        });
        Edge.of(0, "of its kilograms (those of 0 are not looked at) in grams", () -> {
            PostUnion x = under(3, "a:due gives 5+weight;");
            x.road(1, 2, -1, 0);
            flow(x, 0, 1, 0, 1);
            flow(x, 0, 2, 0, 1);
            Edge.gives(x, x.account(0, false), 0);
            Edge.gives(x, x.owes(0, 1), 0);
            flow(x, 0, 1, 1, 1);
            Edge.gives(x, x.account(0, false), 1_005);
        });
        Edge.of(0, "of its kilograms (those of 0 are not looked at) in grams", () -> {
            PostUnion x = under(2, "a:due gives weight;");
            x.tray(0, 2, 52);
            x.fill(0, 0, 52, 10_000, 0);
            x.flow(0, 1, 0, 1, 0);
            Edge.gives(x, x.account(0, false), 520_000_000);
        });
        Edge.of(0, "pieces as many as it has to a kilogram (more than MAIL can have elsewhere)", () -> {
            PostUnion x = under(2, "a:due gives pieces;");
            x.tray(0, 2, 52);
            x.fill(0, 0, 52, 10_000, 0);
            x.flow(0, 1, 0, 100, 0);
            Edge.gives(x, x.account(0, false), 52_000_000);
            Edge.none(x, x.due(0, 1, 0, 1, 1_000_001, 0, 0), 1);
        });
        Edge.of(0, "by its BEST WAY: what is owed by whom to whom.", () -> {
            PostUnion x = under(3, "a:due gives 10;b:third gives 3;");
            flow(x, 0, 2, 1, 1);
            Edge.gives(x, x.account(0, false), 13);
            Edge.gives(x, x.owes(0, 1), 3);
            Edge.gives(x, x.owes(0, 2), 10);
            x.road(0, 2, 60, 0);
            Edge.gives(x, x.account(0, false), 10);
            Edge.gives(x, x.owes(0, 1), 0);
            x.road(0, 2, 60, 4);
            Edge.gives(x, x.account(0, false), 13);
        });
        Edge.of(0, "by its BEST WAY: what is owed by whom to whom.", () -> {
            PostUnion x = under(3, "a:due gives 10;b:third gives 3;");
            flow(x, 1, 2, 1, 1);
            flow(x, 0, 1, 1, 1);
            flow(x, 0, 2, 1, 1);
            Edge.gives(x, x.account(0, false), 33);
            Edge.gives(x, x.owes(0, 1), 13);
            Edge.gives(x, x.owes(0, 2), 10);
            Edge.gives(x, x.owes(1, 2), 10);
            Edge.gives(x, x.balance(0), -23);
        });
        Edge.of(0, "OWES: all that a LAND owes another one, less what that one owes it, if above 0 (else 0).", () -> {
            PostUnion x = under(2, "a:due gives weight/1000;");
            flow(x, 0, 1, 5, 1);
            flow(x, 0, 1, 4, 1);
            flow(x, 1, 0, 8, 1);
            x.account(0, false);
            Edge.gives(x, x.owes(0, 1), 1);
            Edge.gives(x, x.owes(1, 0), 0);
            flow(x, 1, 0, 1, 1);
            x.account(0, false);
            Edge.gives(x, x.owes(0, 1), 0);
            Edge.gives(x, x.owes(1, 0), 0);
        });
        Edge.of(0, "BALANCE of a LAND: all that it is owed less all that it owes.", () -> {
            PostUnion x = under(3, "a:due gives weight/1000;b:third gives 1;");
            flow(x, 0, 2, 5, 1);
            flow(x, 2, 1, 7, 1);
            x.account(0, false);
            Edge.gives(x, x.balance(0), -6);
            Edge.gives(x, x.balance(1), 8);
            Edge.gives(x, x.balance(2), -2);
        });
    }

    /** Debts of whole kilograms between LANDS that all have ROADS to one another. */
    private static PostUnion owing(int lands, int[]... debts) {
        PostUnion x = Check.union(lands);
        Check.treaty(x, "a:due gives weight/1000;", 0);
        for (int[] debt : debts) {
            x.road(debt[0], debt[1], 1, 0);
            flow(x, debt[0], debt[1], debt[2], 1);
        }
        x.account(0, false);
        return x;
    }

    private static void clearedTerms() {
        Edge.of(0, "CLEARED: what each LAND pays another one, so that each BALANCE is as before, and all payments together are least", () -> {
            PostUnion x = owing(3, new int[] {0, 1, 9}, new int[] {1, 2, 9}, new int[] {2, 0, 9});
            for (int a = 0; a < 3; a++) {
                Edge.gives(x, x.balance(a), 0);
                Edge.gives(x, x.pays(a, (a + 1) % 3), 0);
                Edge.gives(x, x.pays(a, (a + 2) % 3), 0);
            }
            PostUnion y = owing(3, new int[] {0, 1, 9}, new int[] {1, 2, 4});
            Edge.gives(y, y.pays(0, 1), 5);
            Edge.gives(y, y.pays(0, 2), 4);
            Edge.gives(y, y.pays(1, 2), 0);
        });
        Edge.of(0, "the LANDS with a BALANCE below 0, by number, each pay as much as can be to those with one above 0, the least number ahead.", () -> {
            PostUnion x = owing(6, new int[] {5, 0, 3}, new int[] {4, 1, 3}, new int[] {3, 2, 3}, new int[] {4, 2, 1});
            long[][] want = new long[6][6];
            want[3][0] = 3;
            want[4][1] = 3;
            want[4][2] = 1;
            want[5][2] = 3;
            for (int a = 0; a < 6; a++) {
                for (int b = 0; b < 6; b++) {
                    if (a != b) {
                        Edge.gives(x, x.pays(a, b), want[a][b]);
                    }
                }
            }
        });
        Edge.of(0, "the LANDS with a BALANCE below 0, by number, each pay as much as can be to those with one above 0, the least number ahead.", () -> {
            PostUnion x = owing(5, new int[] {0, 1, 2}, new int[] {0, 3, 2}, new int[] {2, 4, 1}, new int[] {2, 3, 1});
            long[][] want = new long[5][5];
            want[0][1] = 2;
            want[0][3] = 2;
            want[2][3] = 1;
            want[2][4] = 1;
            for (int a = 0; a < 5; a++) {
                for (int b = 0; b < 5; b++) {
                    if (a != b) {
                        Edge.gives(x, x.pays(a, b), want[a][b]);
                    }
                }
            }
        });
    }

    private static void flow() {
        Edge.of(33, "A FLOW more: its number", () -> {
            PostUnion x = weeks(2, 3);
            Edge.gives(x, x.flow(0, 1, 3, 1, 0), 0);
            Edge.gives(x, x.flow(0, 1, 0, 100, 0), 1);
            Edge.gives(x, x.isTrue(1), 156);
        });
        Edge.of(33, "1: like LANDS, too", () -> {
            PostUnion x = weeks(2, 1);
            Edge.none(x, x.flow(1, 1, 0, 1, 0), 1);
            for (int land : new int[] {-1, 2, LEAST, MOST}) {
                Edge.none(x, x.flow(land, 0, 0, 1, 0), 1);
                Edge.none(x, x.flow(0, land, 0, 1, 0), 1);
            }
            for (int size : new int[] {-1, 4, LEAST, MOST}) {
                Edge.none(x, x.flow(0, 1, size, 1, 0), 1);
            }
            for (int tray : new int[] {-1, 4, LEAST, MOST}) {
                Edge.none(x, x.flow(0, 1, 0, 1, tray), 1);
            }
        });
        Edge.of(33, "2", () -> {
            PostUnion x = weeks(2, 1);
            Edge.none(x, x.flow(0, 1, 0, 1, 1), 2);
        });
        Edge.of(33, "3: fewer than 52", () -> {
            PostUnion x = Check.union(2);
            for (int many : new int[] {0, 51}) {
                x.tray(0, 0, many);
                Edge.none(x, x.flow(0, 1, 0, 1, 0), 3);
            }
            x.tray(0, 0, 52);
            Edge.gives(x, x.flow(0, 1, 0, 1, 0), 0);
        });
        Edge.of(33, "1: a WEEK's number", () -> {
            PostUnion x = weeks(2, 10_000);
            x.write(0, 51, 10_001);
            Edge.none(x, x.flow(0, 1, 0, 1, 0), 1);
            x.write(0, 51, -1);
            Edge.none(x, x.flow(0, 1, 0, 1, 0), 1);
            x.write(0, 51, 0);
            Edge.gives(x, x.flow(0, 1, 0, 1, 0), 0);
        });
        Edge.of(33, "4", () -> {
            PostUnion x = weeks(2, 1);
            for (int k = 0; k < 8; k++) {
                x.flow(0, 1, 0, 1, 0);
            }
            Edge.none(x, x.flow(0, 1, 0, 1, 0), 4);
        });
        Edge.of(33, "asked in this order", () -> {
            PostUnion x = weeks(2, 1);
            for (int k = 0; k < 8; k++) {
                x.flow(0, 1, 0, 1, 0);
            }
            x.tray(1, 0, 51);
            x.fill(1, 0, 51, -1, 0);
            Edge.none(x, x.flow(0, 0, 0, 1, 2), 1);
            Edge.none(x, x.flow(0, 1, 0, 1, 2), 2);
            Edge.none(x, x.flow(0, 1, 0, 101, 1), 1);
            Edge.none(x, x.flow(0, 1, 0, 1, 1), 3);
            x.write(0, 0, -1);
            Edge.none(x, x.flow(0, 1, 0, 1, 0), 1);
        });
    }

    private static void isTrue() {
        Edge.of(34, "TRUE of a FLOW", () -> {
            PostUnion x = weeks(2, 0);
            x.flow(0, 1, 0, 1, 0);
            x.fill(0, 0, 52, 10_000, 0);
            for (int k = 1; k < 8; k++) {
                x.flow(0, 1, 0, 1, 0);
            }
            Edge.gives(x, x.isTrue(0), 0);
            Edge.gives(x, x.isTrue(7), 520_000);
        });
        Edge.of(34, "(1)", () -> {
            PostUnion x = weeks(2, 0);
            Edge.none(x, x.isTrue(0), 1);
            x.flow(0, 1, 0, 1, 0);
            for (int flow : new int[] {-1, 1, 8, LEAST, MOST}) {
                Edge.none(x, x.isTrue(flow), 1);
            }
        });
    }

    private static void draw() {
        Edge.of(35, "A DRAW: as many WEEKS as drawn", () -> {
            PostUnion x = new PostUnion();
            for (int weeks = 1; weeks <= 52; weeks++) {
                Edge.gives(x, x.draw(weeks, weeks), weeks);
            }
        });
        Edge.of(35, "(1)", () -> {
            PostUnion x = new PostUnion();
            for (int weeks : new int[] {0, -1, 53, LEAST, MOST}) {
                Edge.none(x, x.draw(weeks, 0), 1);
            }
            Edge.none(x, x.draw(1, -1), 1);
            Edge.none(x, x.drawn(0), 6);
        });
        Edge.of(36, "The k-th WEEK drawn latest", () -> {
            PostUnion x = new PostUnion();
            x.draw(52, 3);
            Edge.gives(x, x.drawn(0), 0);
            Edge.gives(x, x.drawn(51), 51);
            x.draw(1, 3);
            Edge.gives(x, x.drawn(0), drawn(1, 3)[0]);
            Edge.none(x, x.drawn(1), 6);
        });
        Edge.of(36, "1: k below 0", () -> {
            PostUnion x = new PostUnion();
            Edge.none(x, x.drawn(-1), 1);
            x.draw(52, 3);
            Edge.none(x, x.drawn(-1), 1);
            Edge.none(x, x.drawn(LEAST), 1);
        });
        Edge.of(36, "6: none, or not so many", () -> {
            PostUnion x = new PostUnion();
            Edge.none(x, x.drawn(0), 6);
            x.draw(52, 3);
            Edge.none(x, x.drawn(52), 6);
            Edge.none(x, x.drawn(MOST), 6);
            x.draw(7, 3);
            Edge.none(x, x.drawn(7), 6);
        });
    }

    private static void told() {
        Edge.of(37, "TOLD of a FLOW by the latest DRAW", () -> {
            PostUnion x = weeks(2, 0);
            x.fill(0, 0, 52, 0, 1);
            x.flow(0, 1, 0, 1, 0);
            for (int seed : new int[] {4, 5, 6}) {
                x.draw(1, seed);
                Edge.gives(x, x.told(0), 52L * drawn(1, seed)[0]);
            }
        });
        Edge.of(37, "(1, 6: there was none)", () -> {
            PostUnion x = weeks(2, 0);
            Edge.none(x, x.told(0), 1);
            x.draw(1, 1);
            Edge.none(x, x.told(0), 1);
            x.flow(0, 1, 0, 1, 0);
            for (int flow : new int[] {-1, 1, LEAST, MOST}) {
                Edge.none(x, x.told(flow), 1);
            }
        });
        Edge.of(37, "(1, 6: there was none)", () -> {
            PostUnion x = weeks(2, 0);
            x.flow(0, 1, 0, 1, 0);
            Edge.none(x, x.told(0), 6);
            x.draw(0, 1);
            Edge.none(x, x.told(0), 6);
            x.draw(1, 1);
            Edge.gives(x, x.told(0), 0);
        });
    }

    private static void telling() {
        Edge.of(38, "TELLING of so many WEEKS: how far TOLD is from TRUE by it, of all FLOWS together", () -> {
            PostUnion x = weeks(2, 0);
            for (int weeks = 1; weeks <= 3; weeks++) {
                Edge.gives(x, x.telling(weeks), 0);
            }
            x.fill(0, 0, 52, 0, 1);
            x.flow(0, 1, 0, 1, 0);
            x.flow(1, 0, 0, 1, 0);
            Edge.gives(x, x.telling(1), 52);
            Edge.gives(x, x.tells(0), 25);
        });
        Edge.of(38, "(1)", () -> {
            PostUnion x = new PostUnion();
            for (int weeks : new int[] {0, -1, 4, LEAST, MOST}) {
                Edge.none(x, x.telling(weeks), 1);
            }
            Edge.none(x, x.tells(0), 6);
        });
        Edge.of(39, "The k-th WEEK of the TELLING found latest", () -> {
            PostUnion x = weeks(2, 0);
            x.fill(0, 0, 52, 0, 1);
            x.flow(0, 1, 0, 1, 0);
            x.telling(2);
            Edge.gives(x, x.tells(0), 0);
            Edge.gives(x, x.tells(1), 51);
            x.telling(1);
            Edge.gives(x, x.tells(0), 25);
            Edge.none(x, x.tells(1), 6);
            x.fill(0, 0, 52, 0, 0);
            x.write(0, 9, 52);
            x.flow(0, 1, 0, 1, 0);
            Edge.gives(x, x.tells(0), 25);
        });
        Edge.of(39, "1: k below 0", () -> {
            PostUnion x = new PostUnion();
            Edge.none(x, x.tells(-1), 1);
            x.telling(3);
            Edge.none(x, x.tells(-1), 1);
            Edge.none(x, x.tells(LEAST), 1);
        });
        Edge.of(39, "6: as drawn()", () -> {
            PostUnion x = new PostUnion();
            Edge.none(x, x.tells(0), 6);
            x.draw(3, 1);
            Edge.none(x, x.tells(0), 6);
            x.telling(3);
            Edge.gives(x, x.tells(2), 2);
            Edge.none(x, x.tells(3), 6);
            Edge.none(x, x.tells(MOST), 6);
        });
    }

    private static void account() {
        Edge.of(40, "ACCOUNT of a YEAR (0 to 27), by those TOLD or not", () -> {
            PostUnion x = under(2, "a:due gives 100+year;");
            flow(x, 0, 1, 1, 1);
            x.draw(52, 0);
            Edge.gives(x, x.account(0, false), 100);
            Edge.gives(x, x.account(0, true), 100);
            Edge.gives(x, x.account(27, false), 127);
            Edge.gives(x, x.account(27, true), 127);
        });
        Edge.of(40, "all that is owed together, ahead of being set against one another", () -> {
            PostUnion x = under(2, "a:due gives weight/1000;");
            Edge.gives(x, x.account(0, false), 0);
            flow(x, 0, 1, 5, 1);
            flow(x, 1, 0, 5, 1);
            Edge.gives(x, x.account(0, false), 10);
            Edge.gives(x, x.owes(0, 1), 0);
        });
        Edge.of(40, "all that is owed together", () -> {
            PostUnion x = under(5, "a:due gives 9999999*9999999;b:third gives 9999999*9999999;");
            for (int k = 0; k < 8; k++) {
                flow(x, 0, 4, 1, 1);
            }
            Edge.gives(x, x.account(0, false), 32_000_000_000_000L);
            Edge.gives(x, x.balance(0), -32_000_000_000_000L);
        });
        Edge.of(40, "(1; 6: no DRAW, if by those TOLD; a FLOW without a WAY)", () -> {
            PostUnion x = Check.union(2);
            for (int year : new int[] {-1, 28, LEAST, MOST}) {
                Edge.none(x, x.account(year, false), 1);
                Edge.none(x, x.account(year, true), 1);
            }
        });
        Edge.of(40, "6: no DRAW, if by those TOLD", () -> {
            PostUnion x = Check.union(2);
            Edge.none(x, x.account(0, true), 6);
            Edge.none(x, x.owes(0, 1), 6);
            Edge.gives(x, x.account(0, false), 0);
            x.draw(1, 0);
            Edge.gives(x, x.account(0, true), 0);
        });
        Edge.of(40, "a FLOW without a WAY", () -> {
            PostUnion x = under(3, "a:due gives 7+year;");
            flow(x, 0, 1, 1, 1);
            Edge.gives(x, x.account(0, false), 7);
            flow(x, 0, 2, 1, 1);
            x.road(1, 2, -1, 0);
            Edge.none(x, x.account(1, false), 6);
            Edge.gives(x, x.owes(0, 1), 7);
            Edge.gives(x, x.balance(1), 7);
            x.draw(51, 0);
            boolean isDrawn = drawn(51, 0)[50] == 51;
            x.account(0, true);
            Edge.is("by those TOLD", x.status(), isDrawn ? 6 : 0);
        });
    }

    private static void debts() {
        Edge.of(41, "OWES, of the ACCOUNT told latest", () -> {
            PostUnion x = under(2, "a:due gives 100+year;");
            flow(x, 0, 1, 1, 1);
            x.account(1, false);
            Edge.gives(x, x.owes(0, 1), 101);
            x.account(2, false);
            Edge.gives(x, x.owes(0, 1), 102);
            x.account(28, false);
            flow(x, 1, 0, 1, 1);
            Edge.gives(x, x.owes(0, 1), 102);
        });
        Edge.of(41, "1: like LANDS, too", () -> {
            PostUnion x = Check.union(2);
            x.account(0, false);
            Edge.none(x, x.owes(0, 0), 1);
            for (int land : new int[] {-1, 2, 7, LEAST, MOST}) {
                Edge.none(x, x.owes(land, 0), 1);
                Edge.none(x, x.owes(0, land), 1);
            }
        });
        Edge.of(41, "6: there was none", () -> {
            PostUnion x = Check.union(2);
            Edge.none(x, x.owes(0, 0), 1);
            Edge.none(x, x.owes(0, 1), 6);
            x.account(28, false);
            Edge.none(x, x.owes(0, 1), 6);
            x.account(0, false);
            Edge.gives(x, x.owes(0, 1), 0);
        });
        Edge.of(42, "BALANCE, of it; STATUS tells NONE from -1", () -> {
            PostUnion x = owing(2, new int[] {0, 1, 1});
            Edge.gives(x, x.balance(0), -1);
            Edge.gives(x, x.balance(1), 1);
            Edge.none(x, x.balance(2), 1);
        });
        Edge.of(42, "(1, 6)", () -> {
            PostUnion x = Check.union(2);
            for (int land : new int[] {-1, 2, 7, LEAST, MOST}) {
                Edge.none(x, x.balance(land), 1);
            }
        });
        Edge.of(42, "(1, 6)", () -> {
            PostUnion x = Check.union(2);
            Edge.none(x, x.balance(0), 6);
            x.account(0, false);
            Edge.gives(x, x.balance(0), 0);
        });
        Edge.of(43, "What a LAND pays another one, CLEARED", () -> {
            PostUnion x = owing(3, new int[] {0, 1, 5}, new int[] {1, 2, 5});
            Edge.gives(x, x.pays(0, 2), 5);
            Edge.gives(x, x.pays(0, 1), 0);
            Edge.gives(x, x.pays(1, 2), 0);
            Edge.gives(x, x.pays(2, 0), 0);
        });
        Edge.of(43, "(1: like LANDS, too; 6)", () -> {
            PostUnion x = owing(2, new int[] {0, 1, 5});
            Edge.none(x, x.pays(1, 1), 1);
            for (int land : new int[] {-1, 2, 7, LEAST, MOST}) {
                Edge.none(x, x.pays(land, 0), 1);
                Edge.none(x, x.pays(0, land), 1);
            }
        });
        Edge.of(43, "(1: like LANDS, too; 6)", () -> {
            PostUnion x = Check.union(2);
            Edge.none(x, x.pays(0, 1), 6);
            x.account(0, true);
            Edge.none(x, x.pays(0, 1), 6);
            x.account(0, false);
            Edge.gives(x, x.pays(0, 1), 0);
        });
    }
}
