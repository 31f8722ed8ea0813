/** Promises 40 to 43. */
public final class AccountsTest {
    public static void main(String[] args) {
        ahead();
        rings();
        thirds();
        clearing();
        told();
        refused();
        years();
        Check.end("AccountsTest");
    }

    private static void flow(PostUnion x, int from, int to, int kilograms, int pieces) {
        x.tray(3, 2, 52);
        x.write(3, 7, kilograms);
        x.flow(from, to, 0, pieces, 3);
    }

    private static void ahead() {
        PostUnion x = Check.union(2);
        Check.none(41, "no ACCOUNT", x, x.owes(0, 1), 6);
        Check.none(42, "no ACCOUNT", x, x.balance(0), 6);
        Check.none(43, "no ACCOUNT", x, x.pays(0, 1), 6);
        Check.none(40, "year", x, x.account(-1, false), 1);
        Check.none(40, "year", x, x.account(28, false), 1);
        Check.none(40, "no DRAW", x, x.account(0, true), 6);
        Check.gives(40, "no FLOWS", x, x.account(27, false), 0);
        Check.gives(41, "nothing", x, x.owes(0, 1), 0);
        Check.gives(42, "nothing", x, x.balance(1), 0);
        Check.gives(43, "nothing", x, x.pays(1, 0), 0);
        Check.none(41, "like LANDS", x, x.owes(1, 1), 1);
        Check.none(41, "no LAND", x, x.owes(1, 2), 1);
        Check.none(42, "no LAND", x, x.balance(2), 1);
        Check.none(42, "no LAND", x, x.balance(-1), 1);
        Check.none(43, "like LANDS", x, x.pays(0, 0), 1);
        Check.none(43, "no LAND", x, x.pays(-1, 0), 1);
    }

    private static void rings() {
        PostUnion x = Check.union(4);
        x.road(0, 1, 1, 5);
        x.road(1, 2, 1, 5);
        x.road(2, 0, 1, 5);
        Check.treaty(x, "a:due gives weight/1000;", 0);
        flow(x, 0, 1, 10, 1);
        flow(x, 1, 2, 10, 1);
        flow(x, 2, 0, 11, 1);
        flow(x, 1, 0, 4, 1);
        Check.gives(40, "FREIGHT is owed to nobody", x, x.account(0, false), 35);
        Check.gives(41, "less what it is owed", x, x.owes(0, 1), 6);
        Check.gives(41, "0 the other way", x, x.owes(1, 0), 0);
        Check.gives(41, "owes", x, x.owes(1, 2), 10);
        Check.gives(41, "owes", x, x.owes(2, 0), 11);
        Check.gives(42, "balance", x, x.balance(0), 5);
        Check.gives(42, "balance", x, x.balance(1), -4);
        Check.gives(42, "-1 itself", x, x.balance(2), -1);
        Check.gives(42, "of one that has none", x, x.balance(3), 0);
        Check.gives(43, "pays", x, x.pays(1, 0), 4);
        Check.gives(43, "pays", x, x.pays(2, 0), 1);
        Check.gives(43, "the ring is gone", x, x.pays(0, 1), 0);
        Check.gives(43, "the ring is gone", x, x.pays(1, 2), 0);
        x.land();
        Check.gives(42, "a LAND that came later", x, x.balance(4), 0);
        Check.gives(41, "a LAND that came later", x, x.owes(4, 0), 0);
    }

    private static void thirds() {
        PostUnion x = Check.union(5);
        for (int k = 0; k < 4; k++) {
            x.road(k, k + 1, 1, 0);
        }
        Check.treaty(x, "a:due gives 1000+thirds;b:third gives 100*thirds+via;", 0);
        flow(x, 4, 0, 1, 1);
        flow(x, 0, 2, 1, 1);
        flow(x, 1, 2, 1, 1);
        Check.gives(40, "1003, 303, 302, 301; 1001, 101; 1000", x, x.account(0, false), 4_011);
        Check.gives(41, "DUE", x, x.owes(4, 0), 1_003);
        Check.gives(41, "THIRD", x, x.owes(4, 3), 303);
        Check.gives(41, "THIRD", x, x.owes(4, 2), 302);
        Check.gives(41, "THIRD", x, x.owes(4, 1), 301);
        Check.gives(41, "DUE", x, x.owes(0, 2), 1_001);
        Check.gives(41, "THIRD", x, x.owes(0, 1), 101);
        Check.gives(42, "balance", x, x.balance(0), 1_003 - 1_001 - 101);
        Check.gives(43, "by number: 0 pays", x, x.pays(0, 2), 99);
        Check.gives(43, "then 1", x, x.pays(1, 2), 598);
        Check.gives(43, "then 4", x, x.pays(4, 2), 1_606);
        Check.gives(43, "then 4", x, x.pays(4, 3), 303);
    }

    private static void clearing() {
        PostUnion x = Check.union(6);
        int[][] debts = {{1, 0, 30}, {3, 2, 20}, {3, 4, 25}, {5, 4, 10}};
        Check.treaty(x, "a:due gives weight/1000;", 0);
        for (int[] debt : debts) {
            x.road(debt[0], debt[1], 1, 0);
            flow(x, debt[0], debt[1], debt[2], 1);
        }
        Check.gives(40, "account", x, x.account(0, false), 85);
        long[][] want = new long[6][6];
        want[1][0] = 30;
        want[3][2] = 20;
        want[3][4] = 25;
        want[5][4] = 10;
        for (int a = 0; a < 6; a++) {
            for (int b = 0; b < 6; b++) {
                if (a != b) {
                    Check.gives(43, a + " pays " + b, x, x.pays(a, b), want[a][b]);
                }
            }
        }
        x.road(1, 4, 1, 0);
        flow(x, 1, 4, 100, 1);
        x.account(0, false);
        Check.gives(43, "130: first to 0", x, x.pays(1, 0), 30);
        Check.gives(43, "then to 2", x, x.pays(1, 2), 20);
        Check.gives(43, "then to 4", x, x.pays(1, 4), 80);
        Check.gives(43, "what is left", x, x.pays(3, 4), 45);
        Check.gives(43, "what is left", x, x.pays(5, 4), 10);
        Check.gives(43, "2 has all", x, x.pays(3, 2), 0);
    }

    private static void told() {
        PostUnion x = Check.union(3);
        x.road(0, 1, 1, 0);
        x.road(1, 2, 1, 0);
        Check.treaty(x, "a:due gives pieces;b:third gives weight*via;", 0);
        x.tray(0, 2, 52);
        x.fill(0, 0, 52, 0, 3);
        x.flow(0, 2, 0, 100, 0);
        x.draw(1, 77);
        int kilograms = x.told(0);
        Check.gives(40, "by what is TOLD", x, x.account(0, true), 100L * kilograms + 1000L * kilograms);
        Check.gives(41, "pieces", x, x.owes(0, 2), 100L * kilograms);
        Check.gives(41, "THIRD", x, x.owes(0, 1), 1000L * kilograms);
        Check.gives(40, "by TRUE weights", x, x.account(0, false), 1100L * x.isTrue(0));
        x.fill(0, 0, 52, 10_000, 0);
        x.flow(0, 2, 0, 100, 0);
        Check.gives(40, "many pieces", x, x.account(0, false), 1100L * (x.isTrue(0) + 520_000));
    }

    private static void refused() {
        PostUnion x = Check.union(3);
        x.road(0, 1, 1, 0);
        Check.treaty(x, "a:due gives 5;", 0);
        flow(x, 0, 1, 1, 1);
        flow(x, 0, 2, 0, 1);
        Check.gives(40, "FLOWS of 0 are not looked at", x, x.account(0, false), 5);
        x.draw(1, 1);
        int week = x.drawn(0);
        Check.gives(40, "nor when TOLD", x, x.account(0, true), week == 7 ? 5 : 0);
        x.account(0, false);
        flow(x, 0, 2, 1, 1);
        Check.none(40, "a FLOW without a WAY", x, x.account(0, false), 6);
        Check.gives(41, "the ACCOUNT ahead stays", x, x.owes(0, 1), 5);
        Check.gives(42, "the ACCOUNT ahead stays", x, x.balance(0), -5);
    }

    private static void years() {
        PostUnion x = Check.union(2);
        x.road(0, 1, 1, 0);
        Check.treaty(x, "a:due gives 5+year;", 2);
        flow(x, 0, 1, 1, 1);
        x.reserve(1, 0, 0, 365 * 4 + 1, true);
        Check.gives(40, "ahead of the TREATY", x, x.account(1, false), 0);
        Check.gives(40, "YEAR 2", x, x.account(2, false), 7);
        Check.gives(40, "the YEAR's first DAY", x, x.account(4, false), 9);
        Check.gives(40, "out", x, x.account(5, false), 0);
    }
}
