/** Promises 14 to 23. */
public final class TreatiesTest {
    public static void main(String[] args) {
        tape();
        faults();
        manyClauses();
        brackets();
        longest();
        inForce();
        reserves();
        sums();
        tests();
        lists();
        thirds();
        Check.end("TreatiesTest");
    }

    private static void tape() {
        PostUnion x = Check.union(2);
        for (int k = 1; k <= 30; k++) {
            Check.is(14, "feed", x.feed(k, 0, 0, 0, 0), 20 * k);
        }
        Check.is(14, "more than 600", x.feed(1, 2, 3, 4, 5), -1);
        Check.none(15, "n", x, x.treaty(-1, 0), 1);
        Check.none(15, "n", x, x.treaty(601, 0), 1);
        Check.none(15, "year", x, x.treaty(0, -1), 1);
        Check.none(15, "year", x, x.treaty(0, 28), 1);
        Check.is(16, "no treaty() with 0 or 9 yet", x.fault(0), -1);
        Check.none(15, "bytes 0", x, x.treaty(600, 0), 9);
        Check.is(16, "FAULT", x.fault(0), 1);
        Check.is(16, "its place", x.fault(1), 0);
        Check.is(15, "the tape is empty then, too", x.feed(0x613A6475, 0x65206769, 0x76657320, 0x37373B20, 0x20202020), 20);
        Check.gives(15, "a:due gives 77;", x, x.treaty(20, 27), 0);
        Check.is(16, "none", x.fault(0), 0);
        Check.is(16, "none", x.fault(1), -1);
        Check.is(16, "others", x.fault(2), -1);
        Check.is(16, "others", x.fault(-1), -1);
        Check.gives(15, "the bytes in their order", x, x.due(0, 1, 0, 1, 1, 9_999, 0), 77);
        Check.gives(15, "the empty text", x, x.treaty(0, 0), 1);
        Check.gives(17, "no CLAUSES", x, x.clauses(1), 0);
        Check.gives(17, "one CLAUSE", x, x.clauses(0), 1);
        Check.none(17, "no TREATY", x, x.clauses(2), 1);
        Check.none(17, "no TREATY", x, x.clauses(-1), 1);
        Check.gives(15, "the third", x, x.treaty(0, 0), 2);
        Check.gives(15, "the fourth", x, x.treaty(0, 0), 3);
        x.feed(0, 0, 0, 0, 0);
        Check.none(15, "a 5th", x, x.treaty(1, 0), 4);
        Check.is(15, "the tape stays", x.feed(0, 0, 0, 0, 0), 40);
        Check.is(16, "of the one ahead", x.fault(0), 0);
        Check.none(15, "what can't be comes first", x, x.treaty(41, 0), 1);
    }

    private static void fault(String text, int kind, int place) {
        PostUnion x = new PostUnion();
        int answer = Check.treaty(x, text, 0);
        Check.is(15, "[" + text + "] STATUS", x.status(), kind == 0 ? 0 : 9);
        Check.is(15, "[" + text + "]", answer, kind == 0 ? 0 : -1);
        Check.is(16, "FAULT of [" + text + "]", x.fault(0), kind);
        Check.is(16, "its place in [" + text + "]", x.fault(1), place);
        Check.none(17, "none is added", x, x.clauses(kind == 0 ? 1 : 0), 1);
    }

    private static void faults() {
        fault(" \n ", 0, -1);
        fault("a:due gives 1;b:third gives 2;", 0, -1);
        fault("a : due from 0 , 1 to 2 when 1 = 1 gives 1 ; \n", 0, -1);
        fault("abcdefgh:due gives 1;", 0, -1);
        fault("abcdefghi:due gives 1;", 2, 0);
        fault("a:due gives 1234567;", 0, -1);
        fault("a:due gives 12345678;", 1, 12);
        fault("a:due gives 1;B", 1, 14);
        fault("a:due gives 1\t;", 1, 13);
        fault("a:due gives 1.5;", 1, 13);
        fault("a:due gives \u00e9;", 1, 12);
        fault("a due ?", 2, 2);
        fault("?", 1, 0);
        fault("a", 2, 1);
        fault("a   ", 2, 4);
        fault("a:due gives 1", 2, 13);
        fault("1:due gives 1;", 2, 0);
        for (String word : "due third from to when gives or and not least most weight pieces size heap year thirds via".split(" ")) {
            fault(word + ":due gives 1;", 2, 0);
            fault(word + "x:due gives 1;", word.length() < 8 ? 0 : 2, word.length() < 8 ? -1 : 0);
        }
        fault("a:dues gives 1;", 2, 2);
        fault("a:due from gives 1;", 2, 11);
        fault("a:due from 1, gives 1;", 2, 14);
        fault("a:due from 1 2 gives 1;", 2, 13);
        fault("a:due from 1,9 gives 1;", 5, 13);
        fault("a:due from 1,2,01 gives 1;", 5, 15);
        fault("a:due from 1 to 1 gives 1;", 0, -1);
        fault("a:due from 0,1,2,3,4,5,6 gives 1;", 0, -1);
        fault("a:due from 0,1,2,3,4,5,6,0 gives 1;", 5, 25);
        fault("a:due from 12345678 gives 1;", 1, 11);
        fault("a:due to 2 from 1 gives 1;", 2, 11);
        fault("a:due when 1=1 to 2 gives 1;", 2, 15);
        fault("a:due when gives 1;", 2, 11);
        fault("a:due when 1 gives 1;", 2, 13);
        fault("a:due when 1<2<3 gives 1;", 2, 14);
        fault("a:due when (1<2) gives 1;", 2, 13);
        fault("a:due when not not 1<2 gives 1;", 2, 15);
        fault("a:due when 1<not 2 gives 1;", 2, 13);
        fault("a:due when 1<2 and gives 1;", 2, 19);
        fault("a:due when 1<2 or not 3>4 and 5=6 gives 1;", 0, -1);
        fault("a:due when 1<2;", 2, 14);
        fault("a:due gives 1<2;", 2, 13);
        fault("a:due gives 1 and 2;", 2, 14);
        fault("a:due gives 1 gives 2;", 2, 14);
        fault("a:due gives not 1;", 2, 12);
        fault("a:due gives ;", 2, 12);
        fault("a:due gives -1;", 2, 12);
        fault("a:due gives 1 2;", 2, 14);
        fault("a:due gives b;", 2, 12);
        fault("a:due gives 1,2;", 2, 13);
        fault("a:due gives (1,2);", 2, 14);
        fault("a:due gives ();", 2, 13);
        fault("a:due gives (1;", 2, 14);
        fault("a:due gives 1);", 2, 13);
        fault("a:due gives least 1,2;", 2, 18);
        fault("a:due gives least(1);", 2, 19);
        fault("a:due gives least(1,2,3);", 2, 21);
        fault("a:due gives most((1,2));", 2, 19);
        fault("a:due gives most(1,(2));", 0, -1);
        fault("a:due gives 1;a:due", 4, 14);
        fault("a:due gives 1;b:due gives 1; a", 4, 29);
        fault("a:due gives 1;ab:due gives 1;b:due gives 1;", 0, -1);
        fault("ab:due gives 1;ba:due gives 1;aa:due gives 1;bb:due gives 1;b:due gives 1;az:due gives 1;baa:due gives 1;ab:", 4, 105);
        fault("abcdefgh:due gives 1;abcdefgi:due gives 1;abcdefg:due gives 1;abcdefgh", 4, 62);
        fault("a:due gives ? ;a:due", 1, 12);
        fault("a:due gives 2 2 ?", 2, 14);
    }

    private static void manyClauses() {
        StringBuilder text = new StringBuilder();
        for (char c = 'a'; c < 'm'; c++) {
            text.append(c).append(":due gives 1;");
        }
        PostUnion x = new PostUnion();
        Check.gives(15, "12 CLAUSES", x, Check.treaty(x, text.toString(), 0), 0);
        Check.gives(17, "12 CLAUSES", x, x.clauses(0), 12);
        int n = text.length();
        fault(text + "m", 3, n);
        fault(text + " a", 3, n + 1);
        fault(text + "due", 2, n);
        fault(text + "\n", 0, -1);
    }

    private static void brackets() {
        fault("a:due gives ((((((((((1))))))))));", 0, -1);
        fault("a:due gives (((((((((((1)))))))))));", 6, 22);
        fault("a:due gives ((((((((((1))))))))))+((((((((((1))))))))));", 0, -1);
        fault("a:due gives (((((((((least(1,2))))))))));", 0, -1);
        fault("a:due gives ((((((((((least(1,2)))))))))));", 6, 27);
        fault("a:due gives ((((((((((most 1", 2, 27);
        fault("a:due gives ((((((((((1(", 2, 23);
        fault("a:due when (((((((((((1", 6, 21);
        fault("a:due gives least(least(least(least(least(least(least(least(least(least(1,2),3),4),5),6),7),8),9),10),11);", 0, -1);
    }

    /** As many TOKENS, as much code and as deep a SUM as a text can have. */
    private static void longest() {
        StringBuilder text = new StringBuilder("a:due gives 1");
        for (int k = 1; text.length() < 598; k++) {
            text.append(k % 2 == 0 ? "+2" : "-1");
        }
        text.append(text.length() == 598 ? " ;" : ";");
        PostUnion x = Check.union(2);
        Check.gives(15, "600 bytes", x, Check.treaty(x, text.toString(), 0), 0);
        Check.gives(21, "600 bytes", x, x.due(0, 1, 0, 1, 1, 0, 0), 146);
        StringBuilder signs = new StringBuilder("a:due gives ");
        while (signs.length() < 600) {
            signs.append('1').append('*');
        }
        fault(signs.substring(0, 600), 2, 600);
        fault(";".repeat(600), 2, 0);
        fault(" ".repeat(600), 0, -1);
        fault("a".repeat(600), 2, 0);
        fault("1".repeat(600), 1, 0);
        String deep = "7";
        for (int k = 0; k < 10; k++) {
            deep = "least(9999,most(1+2*" + deep + ",0))";
            k++;
        }
        fault("a:due gives " + deep + ";", 0, -1);
        PostUnion y = Check.union(2);
        Check.treaty(y, "a:due when 1=2 or 1=1 and not 1+2*" + deep + "<1 gives 1+2*" + deep + ";", 0);
        Check.gives(21, "deep", y, y.due(0, 1, 0, 1, 1, 0, 0), 511);
    }

    private static void inForce() {
        PostUnion x = Check.union(2);
        Check.none(18, "none", x, x.inForce(0), 6);
        Check.none(18, "year", x, x.inForce(-1), 1);
        Check.none(18, "year", x, x.inForce(28), 1);
        Check.gives(21, "DUE without a TREATY", x, x.due(0, 1, 0, 1, 1, 0, 0), 0);
        Check.none(22, "no CLAUSE", x, x.dueBy(0, 1, 0, 1, 1, 0, 0), 6);
        Check.treaty(x, "a:due gives 5;", 3);
        Check.treaty(x, "a:due gives 7;", 1);
        Check.none(18, "ahead of all", x, x.inForce(0), 6);
        Check.gives(18, "the earlier one", x, x.inForce(2), 1);
        Check.gives(18, "the later one", x, x.inForce(3), 0);
        Check.gives(18, "on and on", x, x.inForce(27), 0);
        Check.gives(21, "the last DAY of YEAR 0", x, x.due(0, 1, 0, 1, 1, 364, 0), 0);
        Check.gives(21, "the first of YEAR 1", x, x.due(0, 1, 0, 1, 1, 365, 0), 7);
        Check.gives(21, "the last of YEAR 2", x, x.due(0, 1, 0, 1, 1, 1094, 0), 7);
        Check.gives(21, "the first of YEAR 3", x, x.due(0, 1, 0, 1, 1, 1095, 0), 5);
        Check.treaty(x, "a:third gives 9;", 3);
        Check.gives(18, "of like ones the later", x, x.inForce(3), 2);
        Check.gives(21, "it has no due CLAUSE", x, x.due(0, 1, 0, 1, 1, 1095, 0), 0);
    }

    private static void reserves() {
        PostUnion x = Check.union(3);
        Check.treaty(x, "a:due gives 5;b:due gives 6;", 0);
        int[][] bad = {{3, 0, 0, 0}, {-1, 0, 0, 0}, {0, 1, 0, 0}, {0, -1, 0, 0}, {0, 0, 2, 0}, {0, 0, -1, 0}, {0, 0, 0, -1}, {0, 0, 0, 10_000}};
        for (int[] b : bad) {
            Check.no(19, "reserve", x, x.reserve(b[0], b[1], b[2], b[3], true), 1);
            Check.none(20, "isOut", x, x.isOut(b[0], b[1], b[2], b[3]), 1);
        }
        Check.gives(20, "in at first", x, x.isOut(0, 0, 0, 9_999), 0);
        Check.no(19, "in already", x, x.reserve(0, 0, 0, 5, false), 7);
        Check.yes(19, "out", x, x.reserve(0, 0, 0, 10, true));
        Check.yes(19, "in again", x, x.reserve(0, 0, 0, 20, false));
        Check.no(19, "out already", x, x.reserve(0, 0, 0, 15, true), 7);
        Check.gives(20, "ahead", x, x.isOut(0, 0, 0, 9), 0);
        Check.gives(20, "out", x, x.isOut(0, 0, 0, 10), 1);
        Check.gives(20, "out", x, x.isOut(0, 0, 0, 19), 1);
        Check.gives(20, "in again", x, x.isOut(0, 0, 0, 20), 0);
        Check.gives(20, "another CLAUSE", x, x.isOut(0, 0, 1, 10), 0);
        Check.gives(20, "another LAND", x, x.isOut(1, 0, 0, 10), 0);
        Check.gives(21, "the next CLAUSE", x, x.due(0, 1, 0, 1, 1, 10, 0), 6);
        Check.gives(22, "the next CLAUSE", x, x.dueBy(0, 1, 0, 1, 1, 10, 0), 1);
        Check.gives(21, "to the one that is out", x, x.due(1, 0, 0, 1, 1, 10, 0), 6);
        Check.gives(21, "of others", x, x.due(1, 2, 0, 1, 1, 10, 0), 5);
        Check.gives(21, "in again", x, x.due(0, 1, 0, 1, 1, 20, 0), 5);
        Check.yes(19, "of like DAYS the later telling", x, x.reserve(0, 0, 0, 10, false));
        Check.gives(20, "in", x, x.isOut(0, 0, 0, 15), 0);
        boolean out = true;
        for (int k = 3; k < 40; k++) {
            Check.yes(19, "reserve", x, x.reserve(2, 0, 1, k, out));
            out = !out;
        }
        Check.no(19, "a 41st comes ahead of what is so already", x, x.reserve(1, 0, 1, 0, false), 4);
        Check.no(19, "a 41st", x, x.reserve(1, 0, 1, 0, true), 4);
        Check.no(19, "what can't be comes first", x, x.reserve(1, 0, 2, 0, true), 1);
    }

    private static void sum(String sum, long want) {
        PostUnion x = Check.union(3);
        Check.treaty(x, "a:due gives " + sum + ";", 0);
        Check.gives(21, sum, x, x.due(2, 1, 3, 1000, 30, 800, 2), want);
    }

    private static void sums() {
        sum("1+2*3", 7);
        sum("(1+2)*3", 9);
        sum("10-3-2", 5);
        sum("100/10/5*2", 4);
        sum("7/2*2", 6);
        sum("2*3+4*5-6/4", 25);
        sum("5-7", 0);
        sum("10+(0-7)/2", 7);
        sum("4/0+1", 1);
        sum("least(3,2)*10+most(3,2)", 23);
        sum("least(0-5,3)+10", 5);
        sum("most(least(9,4),least(1,most(2,3)))", 4);
        sum("weight", 1000);
        sum("pieces", 30);
        sum("size", 3);
        sum("heap", 33);
        sum("year", 2);
        sum("thirds", 2);
        sum("via+5", 4);
        sum("9999999*9999999", 1_000_000_000_000L);
        sum("1000000*1000000", 1_000_000_000_000L);
        sum("1000000*1000000-1", 999_999_999_999L);
        sum("4194304*4194304*1048576*2", 0);
        sum("4194304*4194304*1048576*2+6", 6);
        sum("(0-4194304*4194304*524288)/(0-1)", 0);
        sum("0-1", 0);
        PostUnion x = Check.union(3);
        int[][] bad = {{0, 0, 0, 1, 1, 0, 0}, {3, 0, 0, 1, 1, 0, 0}, {0, -1, 0, 1, 1, 0, 0}, {0, 1, -1, 1, 1, 0, 0}, {0, 1, 4, 1, 1, 0, 0},
            {0, 1, 0, 0, 1, 0, 0}, {0, 1, 0, 1_000_000_001, 1, 0, 0}, {0, 1, 0, 1, 0, 0, 0}, {0, 1, 0, 1, 1_000_001, 0, 0},
            {0, 1, 0, 1, 1, -1, 0}, {0, 1, 0, 1, 1, 10_000, 0}, {0, 1, 0, 1, 1, 0, -1}, {0, 1, 0, 1, 1, 0, 4}};
        for (int[] b : bad) {
            Check.none(21, "due", x, x.due(b[0], b[1], b[2], b[3], b[4], b[5], b[6]), 1);
            Check.none(22, "dueBy", x, x.dueBy(b[0], b[1], b[2], b[3], b[4], b[5], b[6]), 1);
        }
        Check.gives(21, "the greatest MAIL", x, x.due(0, 1, 3, 1_000_000_000, 1_000_000, 9_999, 3), 0);
    }

    private static void test(String test, int want) {
        PostUnion x = Check.union(2);
        Check.treaty(x, "a:due when " + test + " gives 1;b:due gives 2;", 0);
        Check.gives(22, test, x, x.dueBy(0, 1, 1, 100, 7, 0, 0), want == 1 ? 0 : 1);
        Check.gives(21, test, x, x.due(0, 1, 1, 100, 7, 0, 0), want == 1 ? 1 : 2);
    }

    private static void tests() {
        test("1<2", 1);
        test("2<2", 0);
        test("3>2", 1);
        test("2>2", 0);
        test("2=2", 1);
        test("not 2=2", 0);
        test("not 1<2", 0);
        test("not 2>1", 0);
        test("not 2<1", 1);
        test("1=2 and 1=1 or 1=1", 1);
        test("1=1 or 1=1 and 1=2", 1);
        test("1=2 or 1=1 and 1=2", 0);
        test("not 1=2 and 1=2", 0);
        test("not 1=1 or 1=1", 1);
        test("1=2 or not 1=2 and not 3<2", 1);
        test("weight+1>pieces*14", 1);
        test("1+1=4/2", 1);
        test("0-5<least(0-4,0)", 1);
        test("via=0-1 and thirds=0", 1);
        test("heap=14", 1);
    }

    private static void lists() {
        PostUnion x = Check.union(4);
        Check.treaty(x, "a:due from 0,2 to 1,6 gives 1;b:due to 3 gives 2;c:due from 3 gives 3;d:third gives 4;", 0);
        Check.gives(22, "from 0 to 1", x, x.dueBy(0, 1, 0, 1, 1, 0, 0), 0);
        Check.gives(22, "from 2 to 1", x, x.dueBy(2, 1, 0, 1, 1, 0, 0), 0);
        Check.gives(22, "from 0 to 3", x, x.dueBy(0, 3, 0, 1, 1, 0, 0), 1);
        Check.gives(22, "from 3 to 1", x, x.dueBy(3, 1, 0, 1, 1, 0, 0), 2);
        Check.none(22, "from 0 to 2", x, x.dueBy(0, 2, 0, 1, 1, 0, 0), 6);
        Check.gives(21, "from 0 to 2", x, x.due(0, 2, 0, 1, 1, 0, 0), 0);
    }

    private static void thirds() {
        PostUnion x = Check.union(4);
        Check.treaty(x, "a:due gives 9;b:third from 0 to 2 when via=1 gives thirds*100+via;c:third when thirds>2 gives 0-1;d:third gives weight/pieces;", 0);
        Check.gives(23, "b", x, x.third(0, 2, 1, 0, 50, 7, 0, 3), 301);
        Check.gives(23, "c, cut", x, x.third(0, 2, 3, 0, 50, 7, 0, 3), 0);
        Check.gives(23, "d", x, x.third(0, 2, 3, 0, 50, 7, 0, 2), 7);
        Check.gives(23, "another from", x, x.third(3, 2, 1, 0, 50, 7, 0, 1), 7);
        x.reserve(1, 0, 1, 0, true);
        Check.gives(23, "the one between is out", x, x.third(0, 2, 1, 0, 50, 7, 0, 1), 7);
        x.reserve(1, 0, 1, 0, false);
        x.reserve(2, 0, 1, 0, true);
        Check.gives(23, "that to which it goes is out", x, x.third(0, 2, 1, 0, 50, 7, 0, 1), 101);
        x.reserve(0, 0, 1, 0, true);
        Check.gives(23, "that from which it goes is out", x, x.third(0, 2, 1, 0, 50, 7, 0, 1), 7);
        x.reserve(0, 0, 3, 0, true);
        Check.gives(23, "without any", x, x.third(0, 2, 1, 0, 50, 7, 0, 1), 0);
        int[][] bad = {{0, 2, 0, 0, 1, 1, 0, 1}, {0, 2, 2, 0, 1, 1, 0, 1}, {0, 0, 1, 0, 1, 1, 0, 1}, {0, 2, 4, 0, 1, 1, 0, 1}, {0, 2, -1, 0, 1, 1, 0, 1},
            {0, 2, 1, 4, 1, 1, 0, 1}, {0, 2, 1, 0, 0, 1, 0, 1}, {0, 2, 1, 0, 1, 0, 0, 1}, {0, 2, 1, 0, 1, 1, -1, 1}, {0, 2, 1, 0, 1, 1, 0, 0}, {0, 2, 1, 0, 1, 1, 0, 4}};
        for (int[] b : bad) {
            Check.none(23, "third", x, x.third(b[0], b[1], b[2], b[3], b[4], b[5], b[6], b[7]), 1);
        }
    }
}
