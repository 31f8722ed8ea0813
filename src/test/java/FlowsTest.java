/** Promises 33 to 39. */
public final class FlowsTest {
    public static void main(String[] args) {
        flows();
        draws();
        telling();
        Check.end("FlowsTest");
    }

    private static void flows() {
        PostUnion x = Check.union(2);
        int[][] bad = {{0, 0, 0, 1, 0}, {2, 0, 0, 1, 0}, {0, -1, 0, 1, 0}, {0, 1, -1, 1, 0}, {0, 1, 4, 1, 0}, {0, 1, 0, 0, 0}, {0, 1, 0, 101, 0}, {0, 1, 0, 1, 4}, {0, 1, 0, 1, -1}};
        for (int[] b : bad) {
            Check.none(33, "flow", x, x.flow(b[0], b[1], b[2], b[3], b[4]), 1);
        }
        Check.none(33, "MISSING", x, x.flow(0, 1, 0, 1, 0), 2);
        x.tray(0, 2, 51);
        x.write(0, 0, -1);
        Check.none(33, "fewer than 52 comes ahead", x, x.flow(0, 1, 0, 1, 0), 3);
        x.tray(0, 2, 53);
        x.write(0, 52, -1);
        x.write(0, 51, 10_001);
        Check.none(33, "a WEEK's number", x, x.flow(0, 1, 0, 1, 0), 1);
        x.write(0, 51, -1);
        Check.none(33, "a WEEK's number", x, x.flow(0, 1, 0, 1, 0), 1);
        x.write(0, 51, 10_000);
        Check.gives(33, "a flow", x, x.flow(0, 1, 3, 100, 0), 0);
        x.fill(0, 0, 52, 10_000, 0);
        Check.gives(33, "a flow", x, x.flow(1, 0, 0, 1, 0), 1);
        Check.gives(34, "TRUE of the first", x, x.isTrue(0), 10_000);
        Check.gives(34, "TRUE of the second", x, x.isTrue(1), 520_000);
        Check.none(34, "no FLOW", x, x.isTrue(2), 1);
        Check.none(34, "no FLOW", x, x.isTrue(-1), 1);
        for (int k = 2; k < 8; k++) {
            Check.gives(33, "a flow", x, x.flow(0, 1, 0, 1, 0), k);
        }
        Check.none(33, "a 9th", x, x.flow(0, 1, 0, 1, 0), 4);
        x.write(0, 3, -1);
        Check.none(33, "a WEEK's number comes ahead", x, x.flow(0, 1, 0, 1, 0), 1);
    }

    /** WEEKS of which none is the first, and which are told in their order. */
    private static void farWeeks() {
        PostUnion x = Check.union(2);
        int[][] heavy = {{20, 520}, {40, 520}, {51, 520}};
        for (int[] one : heavy) {
            x.tray(0, 2, 52);
            x.fill(0, 0, 52, 520, 0);
            x.fill(0, one[0], 1, 0, 0);
            x.write(0, 0, 10_000);
            x.write(0, 3, 10_000);
            x.flow(0, 1, 0, 1, 0);
        }
        long least = Long.MAX_VALUE;
        int[] first = new int[3];
        int[][] rows = new int[3][52];
        int[] all = new int[3];
        for (int f = 0; f < 3; f++) {
            for (int week = 0; week < 52; week++) {
                rows[f][week] = week == 0 || week == 3 ? 10_000 : week == heavy[f][0] ? 0 : 520;
                all[f] += rows[f][week];
            }
        }
        for (int a = 0; a < 52; a++) {
            for (int b = a + 1; b < 52; b++) {
                for (int c = b + 1; c < 52; c++) {
                    long far = 0;
                    for (int f = 0; f < 3; f++) {
                        far += Math.abs(52 * (rows[f][a] + rows[f][b] + rows[f][c]) / 3 - all[f]);
                    }
                    if (far < least) {
                        least = far;
                        first = new int[] {a, b, c};
                    }
                }
            }
        }
        Check.is(38, "the test's own WEEKS", first[0], 1);
        Check.gives(38, "three of all WEEKS", x, x.telling(3), least);
        for (int k = 0; k < 3; k++) {
            Check.gives(39, "three of all WEEKS", x, x.tells(k), first[k]);
        }
        PostUnion y = Check.union(2);
        y.tray(0, 2, 52);
        y.fill(0, 0, 52, 10_000, 0);
        y.fill(0, 9, 1, 100, 0);
        y.fill(0, 30, 1, 200, 0);
        y.fill(0, 51, 1, 300, 0);
        y.tray(1, 2, 52);
        y.flow(0, 1, 0, 1, 1);
        y.fill(1, 9, 1, 9_000, 0);
        y.fill(1, 30, 1, 9_000, 0);
        y.fill(1, 51, 1, 9_000, 0);
        Check.gives(38, "a FLOW of 0", y, y.telling(3), 0);
        y.flow(0, 1, 0, 1, 1);
        Check.gives(38, "the nearest is none of the three", y, y.telling(3), 27_000);
        Check.gives(39, "the first ones", y, y.tells(0), 0);
    }

    private static void draws() {
        PostUnion x = Check.union(2);
        Check.none(36, "none", x, x.drawn(0), 6);
        Check.none(36, "k", x, x.drawn(-1), 1);
        Check.none(35, "weeks", x, x.draw(0, 0), 1);
        Check.none(35, "weeks", x, x.draw(53, 0), 1);
        Check.none(35, "seed", x, x.draw(1, -1), 1);
        x.tray(0, 2, 52);
        x.fill(0, 0, 52, 100, 1);
        x.flow(0, 1, 0, 1, 0);
        Check.none(37, "no FLOW", x, x.told(1), 1);
        Check.none(37, "no DRAW", x, x.told(0), 6);
        int[] seeds = {0, 1, 42, 65_535, 1_234_567_890, Integer.MAX_VALUE};
        for (int seed : seeds) {
            for (int weeks : new int[] {1, 2, 7, 26, 51, 52}) {
                draw(x, weeks, seed);
            }
        }
        Check.gives(35, "draw", x, x.draw(1, 5), 1);
        int week = x.drawn(0);
        Check.none(35, "one that is refused", x, x.draw(0, 9), 1);
        Check.gives(36, "changes nothing", x, x.drawn(0), week);
        Check.gives(37, "a FLOW behind the DRAW", x, x.told(0), 52 * (100 + week));
    }

    private static void draw(PostUnion x, int weeks, int seed) {
        Check.gives(35, "draw", x, x.draw(weeks, seed), weeks);
        java.math.BigInteger s = java.math.BigInteger.valueOf(seed);
        int k = 0;
        int sum = 0;
        for (int week = 0; week < 52; week++) {
            s = s.multiply(java.math.BigInteger.valueOf(1_103_515_245)).add(java.math.BigInteger.valueOf(12_345)).mod(java.math.BigInteger.TWO.pow(31));
            if (s.intValueExact() / 65_536 % (52 - week) < weeks - k) {
                Check.gives(36, "drawn " + k, x, x.drawn(k), week);
                k++;
                sum += 100 + week;
            }
        }
        Check.none(36, "not so many", x, x.drawn(weeks), 6);
        Check.gives(37, "told", x, x.told(0), 52 * sum / weeks);
    }

    private static void telling() {
        PostUnion x = Check.union(2);
        Check.none(39, "none", x, x.tells(0), 6);
        Check.none(39, "k", x, x.tells(-1), 1);
        Check.none(38, "weeks", x, x.telling(0), 1);
        Check.none(38, "weeks", x, x.telling(4), 1);
        Check.gives(38, "without FLOWS", x, x.telling(3), 0);
        for (int k = 0; k < 3; k++) {
            Check.gives(39, "the first WEEKS", x, x.tells(k), k);
        }
        Check.none(39, "not so many", x, x.tells(3), 6);
        x.tray(0, 2, 52);
        x.fill(0, 0, 26, 1, 0);
        x.flow(0, 1, 0, 1, 0);
        Check.gives(38, "26 apart either way", x, x.telling(1), 26);
        Check.gives(39, "the first", x, x.tells(0), 0);
        Check.none(39, "not so many", x, x.tells(1), 6);
        Check.gives(38, "one of each", x, x.telling(2), 0);
        Check.gives(39, "the first", x, x.tells(0), 0);
        Check.gives(39, "the next one", x, x.tells(1), 26);
        Check.gives(38, "17 or 34", x, x.telling(3), 8);
        Check.gives(39, "of several the first", x, x.tells(1), 1);
        Check.gives(39, "two of the first", x, x.tells(2), 26);
        x.tray(0, 2, 52);
        x.write(0, 51, 52);
        x.flow(1, 0, 0, 1, 0);
        Check.gives(38, "of two FLOWS", x, x.telling(1), 26 + 52);
        Check.gives(38, "of two FLOWS", x, x.telling(2), 52);
        Check.gives(39, "of two FLOWS", x, x.tells(1), 26);
        farWeeks();
        x.telling(2);
        Check.none(38, "refused", x, x.telling(4), 1);
        Check.gives(39, "changes nothing", x, x.tells(0), 0);
        Check.gives(39, "changes nothing", x, x.tells(1), 26);
    }
}
