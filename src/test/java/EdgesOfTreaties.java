/** Promises 14 to 20, and what the terms say of TEXTS, FAULTS, TREATIES and RESERVES. */
final class EdgesOfTreaties {
    private static final int LEAST = Integer.MIN_VALUE;
    private static final int MOST = Integer.MAX_VALUE;

    private EdgesOfTreaties() {
    }

    static void run() {
        tokens();
        grammar();
        formulas();
        names();
        faults();
        arithmetic();
        years();
        feed();
        treaty();
        fault();
        clausesAndForce();
        reserves();
        isOut();
    }

    private static void fine(String text) {
        PostUnion x = new PostUnion();
        Edge.gives(x, Check.treaty(x, text, 0), 0);
        Edge.is("FAULT of " + text, x.fault(0), 0);
        Edge.is("its place in " + text, x.fault(1), -1);
    }

    private static void faulty(String text, int kind, int place) {
        PostUnion x = new PostUnion();
        Edge.none(x, Check.treaty(x, text, 0), 9);
        Edge.is("FAULT of " + text, x.fault(0), kind);
        Edge.is("its place in " + text, x.fault(1), place);
    }

    /** What is DUE by a SUM: of 12 grams, 5 pieces, size 3, YEAR 2, over 1 LAND between. */
    private static void due(String sum, long want) {
        PostUnion x = Check.union(2);
        Check.treaty(x, "a:due gives " + sum + ";", 0);
        Edge.gives(x, x.due(0, 1, 3, 12, 5, 730, 1), want);
    }

    private static void holds(String test, boolean want) {
        PostUnion x = Check.union(2);
        Check.treaty(x, "a:due when " + test + " gives 1;", 0);
        Edge.gives(x, x.due(0, 1, 3, 12, 5, 730, 1), want ? 1 : 0);
    }

    private static String clauses(int many) {
        StringBuilder text = new StringBuilder();
        for (int k = 0; k < many; k++) {
            text.append((char) ('a' + k)).append(":due gives 1;");
        }
        return text.toString();
    }

    private static void tokens() {
        Edge.of(0, "A TREATY is a TEXT of at most 600 bytes.", () -> {
            PostUnion x = Check.union(2);
            String text = clauses(1) + " ".repeat(600 - 14 - 14) + "b:due gives 2;";
            Edge.gives(x, Check.treaty(x, text, 0), 0);
            Edge.gives(x, x.clauses(0), 2);
            fine(" ".repeat(600));
            faulty(";".repeat(600), 2, 0);
            faulty(";".repeat(599) + "a", 2, 0);
            faulty(";".repeat(599) + "1", 2, 0);
            faulty("a".repeat(600), 2, 0);
            faulty("a:" + "due".repeat(199) + "a", 2, 2);
        });
        Edge.of(0, "TOKENS, as long as they go", () -> {
            faulty("a:duegives 1;", 2, 2);
            faulty("a:due gives 1 2;", 2, 14);
            due("12", 12);
            fine("a:due gives1;b:due from0to1when1=1gives1;");
            faulty("abcd efgh:due gives 1;", 2, 5);
        });
        Edge.of(0, "between them blanks (10, 32)", () -> {
            fine("a:due gives 1;");
            fine(" \n a \n\n : \n due \n gives \n 1 \n ; \n ");
            faulty("a\t:due gives 1;", 1, 1);
            faulty("a\r:due gives 1;", 1, 1);
            faulty("a\u00a0:due gives 1;", 1, 1);
            faulty("a\u0000:due gives 1;", 1, 1);
        });
        Edge.of(0, "WORDS (small letters)", () -> {
            fine("z:due gives 1;");
            faulty("A:due gives 1;", 1, 0);
            faulty("a:Due gives 1;", 1, 2);
            faulty("a`:due gives 1;", 1, 1);
            faulty("z{:due gives 1;", 1, 1);
            faulty("a_b:due gives 1;", 1, 1);
            faulty("a\u00e9:due gives 1;", 1, 1);
        });
        Edge.of(0, "NUMBERS (1 to 7 digits)", () -> {
            due("0", 0);
            due("9", 9);
            due("9999999", 9_999_999);
            due("0000009", 9);
            faulty("a:due gives 00000009;", 1, 12);
            faulty("a:due gives 10000000;", 1, 12);
        });
        Edge.of(0, "SIGNS : ; , < > = + - * / ( )", () -> {
            fine("a:due from 0,1 when 1<2 and 2>1 or 1=1 gives (1+2-3*4/5);");
            for (int sign = 0; sign < 256; sign++) {
                boolean isLetter = sign >= 'a' && sign <= 'z';
                boolean stands = sign >= '0' && sign <= '9' || ":;,<>=+-*/()".indexOf(sign) >= 0;
                if (sign == 10 || sign == 32) {
                    fine(String.valueOf((char) sign));
                } else {
                    faulty(String.valueOf((char) sign), isLetter || stands ? 2 : 1, isLetter ? 1 : 0);
                }
            }
        });
    }

    private static void grammar() {
        Edge.of(0, "TREATY: {CLAUSE}.", () -> {
            PostUnion x = new PostUnion();
            Edge.gives(x, Check.treaty(x, "", 0), 0);
            Edge.gives(x, x.clauses(0), 0);
            Edge.gives(x, Check.treaty(x, clauses(12), 0), 1);
            Edge.gives(x, x.clauses(1), 12);
            faulty(";", 2, 0);
            faulty(clauses(1) + ";", 2, 14);
        });
        Edge.of(0, "CLAUSE: NAME : SORT [from LIST] [to LIST] [when TEST] gives SUM ;", () -> {
            for (int parts = 0; parts < 8; parts++) {
                fine("a:due" + ((parts & 1) != 0 ? " from 1" : "") + ((parts & 2) != 0 ? " to 2" : "")
                        + ((parts & 4) != 0 ? " when 1=1" : "") + " gives 1;");
            }
            faulty(":due gives 1;", 2, 0);
            faulty("a due gives 1;", 2, 2);
            faulty("a:gives 1;", 2, 2);
            faulty("a:due to 1 from 2 gives 1;", 2, 11);
            faulty("a:due when 1=1 from 2 gives 1;", 2, 15);
            faulty("a:due when 1=1 to 2 gives 1;", 2, 15);
            faulty("a:due from 1 from 2 gives 1;", 2, 13);
            faulty("a:due 1;", 2, 6);
            faulty("a:due gives;", 2, 11);
            faulty("a:due when 1=1;", 2, 14);
            faulty("a:due gives 1 and 2;", 2, 14);
            faulty("a:due gives 1 or 2;", 2, 14);
            faulty("a:due gives 1 gives 2;", 2, 14);
            faulty("a:due gives 1", 2, 13);
            faulty("a:due gives 1:", 2, 13);
        });
        Edge.of(0, "SORT: due, or third.", () -> {
            fine("a:due gives 1;");
            fine("a:third gives 1;");
            faulty("a:thirds gives 1;", 2, 2);
            faulty("a:from 1 gives 1;", 2, 2);
            faulty("a:due third gives 1;", 2, 6);
        });
        Edge.of(0, "LIST: NUMBER {, NUMBER}.", () -> {
            fine("a:due from 0 gives 1;");
            fine("a:due from 6,5,4,3,2,1,0 to 0,1,2,3,4,5,6 gives 1;");
            faulty("a:due from gives 1;", 2, 11);
            faulty("a:due from ,1 gives 1;", 2, 11);
            faulty("a:due from 1, gives 1;", 2, 14);
            faulty("a:due from 1,,2 gives 1;", 2, 13);
            faulty("a:due from 1 2 gives 1;", 2, 13);
            faulty("a:due from via gives 1;", 2, 11);
            faulty("a:due to 0,1,2,3,4,5,6, gives 1;", 2, 24);
        });
        Edge.of(0, "({ } any number of times, [ ] perhaps.)", () -> {
            due("1" + "+1".repeat(290), 291);
            due("1" + "*1".repeat(290), 1);
            holds("1=2" + " or 1=2".repeat(70), false);
            holds("1=1" + " and 1=1".repeat(60), true);
        });
    }

    private static void formulas() {
        Edge.of(0, "TEST: PART {or PART}.", () -> {
            holds("1=2 or 1=1", true);
            holds("1=1 or 1=2", true);
            holds("1=2 or 2=1 or 1=3", false);
            faulty("a:due when gives 1;", 2, 11);
            faulty("a:due when 1=1 or gives 1;", 2, 18);
            faulty("a:due when or 1=1 gives 1;", 2, 11);
        });
        Edge.of(0, "PART: ONE {and ONE}.", () -> {
            holds("1=1 and 2=2 and 3=3", true);
            holds("1=1 and 2=2 and 3=4", false);
            holds("1=1 or 1=1 and 1=2", true);
            holds("1=2 and 1=1 or 1=1", true);
            faulty("a:due when 1=1 and gives 1;", 2, 19);
        });
        Edge.of(0, "ONE: [not] SUM COMPARES SUM.", () -> {
            holds("not 1=2", true);
            holds("not 1=1", false);
            holds("not 1<2", false);
            holds("not 2>1", false);
            holds("not 1>2 and not 2<1", true);
            holds("not 1=2 and 1=2", false);
            holds("1+1=2*1", true);
            holds("1<2 and not 2<1", true);
            faulty("a:due when not not 1=2 gives 1;", 2, 15);
            faulty("a:due when 1 gives 1;", 2, 13);
            faulty("a:due when 1= gives 1;", 2, 14);
            faulty("a:due when 1=2=3 gives 1;", 2, 14);
            faulty("a:due when 1=not 2 gives 1;", 2, 13);
            faulty("a:due when (1=2) gives 1;", 2, 13);
            faulty("a:due gives not 1;", 2, 12);
        });
        Edge.of(0, "COMPARES: < or > or =", () -> {
            int[][] pairs = {{1, 2}, {2, 2}, {3, 2}};
            for (int[] pair : pairs) {
                holds(pair[0] + "<" + pair[1], pair[0] < pair[1]);
                holds(pair[0] + ">" + pair[1], pair[0] > pair[1]);
                holds(pair[0] + "=" + pair[1], pair[0] == pair[1]);
            }
            faulty("a:due when 1<=2 gives 1;", 2, 13);
            faulty("a:due gives 1<2;", 2, 13);
        });
        Edge.of(0, "SUM: ITEM {+ ITEM, or - ITEM}.", () -> {
            due("10-3-2+1", 6);
            due("1+2*3-4/2", 5);
            faulty("a:due gives 1+;", 2, 14);
            faulty("a:due gives -1;", 2, 12);
            faulty("a:due gives 1+-1;", 2, 14);
        });
        Edge.of(0, "ITEM: ATOM {* ATOM, or / ATOM}.", () -> {
            due("100/7/2*3", 21);
            faulty("a:due gives 1*;", 2, 14);
            faulty("a:due gives /1;", 2, 12);
        });
        Edge.of(0, "ATOM: NUMBER, a VARIABLE, ( SUM ), or FEW ( SUM , SUM ).", () -> {
            due("2*(3+4)", 14);
            due("least(1+1,3)*most(1,2-1)", 2);
            faulty("a:due gives ();", 2, 13);
            faulty("a:due gives (1;", 2, 14);
            faulty("a:due gives (1,2);", 2, 14);
            faulty("a:due gives 1);", 2, 13);
            faulty("a:due gives least 1;", 2, 18);
            faulty("a:due gives least(1);", 2, 19);
            faulty("a:due gives least(,1);", 2, 18);
            faulty("a:due gives least(1,);", 2, 20);
            faulty("a:due gives least(1,2,3);", 2, 21);
            faulty("a:due gives b;", 2, 12);
        });
        Edge.of(0, "FEW: least, or most.", () -> {
            due("least(7,9)", 7);
            due("most(7,9)", 9);
            faulty("a:due gives few(7,9);", 2, 12);
        });
    }

    private static void names() {
        String known = "due third from to when gives or and not least most";
        Edge.of(0, "NAME: a WORD of 1 to 8 letters", () -> {
            fine("a:due gives 1;");
            fine("abcdefgh:due gives 1;");
            faulty("abcdefghi:due gives 1;", 2, 0);
            faulty("a:due gives abcdefghi;", 2, 12);
            faulty("a:due from abcdefghi gives 1;", 2, 11);
            faulty("7:due gives 1;", 2, 0);
        });
        Edge.of(0, "that is none of those that stand here with small letters", () -> {
            for (String word : known.split(" ")) {
                faulty(word + ":due gives 1;", 2, 0);
                fine(word + "x:due gives 1;");
                fine("x" + word + ":due gives 1;");
                fine(word.substring(0, word.length() - 1) + ":due gives 1;");
            }
        });
        Edge.of(0, "nor a VARIABLE.", () -> {
            for (String word : "weight pieces size heap year thirds via".split(" ")) {
                faulty(word + ":due gives 1;", 2, 0);
                fine(word + "x:due gives 1;");
            }
        });
        Edge.of(0, "VARIABLES: weight, pieces, size, heap, year, thirds, via.", () -> {
            due("weight", 12);
            due("pieces", 5);
            due("size", 3);
            due("heap", 2);
            due("year", 2);
            due("thirds", 1);
            due("via+1", 0);
            due("via+2", 1);
            faulty("a:due gives day;", 2, 12);
        });
    }

    private static void faults() {
        Edge.of(0, "FAULTS, the first along the text", () -> {
            faulty("a:due gives ?;a:due", 1, 12);
            faulty("a:due gives 1 1 ?", 2, 14);
            faulty("a:due from 7 gives 12345678;", 5, 11);
            faulty("a:due from 1 gives 1;a:due from 7", 4, 21);
        });
        Edge.of(0, "(of one TOKEN the least kind)", () -> {
            faulty(clauses(12) + "a:", 3, 12 * 14);
            faulty(clauses(12) + "due", 2, 12 * 14);
            faulty(clauses(12) + "abcdefghi", 2, 12 * 14);
            faulty(clauses(12) + "?", 1, 12 * 14);
            faulty("a:due from 00000007 gives 1;", 1, 11);
        });
        Edge.of(0, "1 no TOKEN begins so (a NUMBER of 8 digits and more: at its first).", () -> {
            faulty("?", 1, 0);
            faulty("a:due gives 1.5;", 1, 13);
            faulty("a:due gives 12345678;", 1, 12);
            faulty("a:due gives " + "9".repeat(588), 1, 12);
            fine("a:due gives 1234567;");
        });
        Edge.of(0, "2 it can't stand there (the end: the text's length).", () -> {
            faulty("a:due gives 1 due", 2, 14);
            faulty("a", 2, 1);
            faulty("a \n ", 2, 4);
            faulty("a:due from 1,", 2, 13);
            faulty("a:due when 1=1 ", 2, 15);
            faulty("a:due gives (1", 2, 14);
            faulty("a".repeat(9) + " ".repeat(591), 2, 0);
            faulty("a:due gives 1" + " ".repeat(587), 2, 600);
        });
        Edge.of(0, "2 it can't stand there (the end: the text's length).", () -> {
            PostUnion x = new PostUnion();
            Check.feed(x, clauses(1));
            Edge.none(x, x.treaty(13, 0), 9);
            Edge.is("n bytes are the text, not those of the tape", x.fault(1), 13);
        });
        Edge.of(0, "3 a 13th CLAUSE (at its NAME).", () -> {
            fine(clauses(12));
            fine(clauses(12) + " \n");
            faulty(clauses(13), 3, 12 * 14);
            faulty(clauses(12) + "\n m", 3, 12 * 14 + 2);
        });
        Edge.of(0, "4 a NAME there is already.", () -> {
            faulty("a:due gives 1;a:third gives 1;", 4, 14);
            faulty(clauses(11) + " a", 4, 11 * 14 + 1);
            faulty(clauses(11) + "k:", 4, 11 * 14);
            fine("a:due gives 1;aa:due gives 1;ab:due gives 1;");
            faulty("abcdefgh:due gives 1;abcdefgh", 4, 21);
            fine("abcdefgh:due gives 1;abcdefgi:due gives 1;abcdefg:due gives 1;");
        });
        Edge.of(0, "5 a NUMBER of a LIST above 6, or told twice in it.", () -> {
            fine("a:due from 6 to 6 gives 7;");
            faulty("a:due from 7 gives 1;", 5, 11);
            faulty("a:due to 9999999 gives 1;", 5, 9);
            faulty("a:due from 0,7 gives 1;", 5, 13);
            faulty("a:due from 0,1,0 gives 1;", 5, 15);
            faulty("a:due from 6,06 gives 1;", 5, 13);
            faulty("a:due from 0 to 1,0,1 gives 1;", 5, 20);
            faulty("a:due from 0,1,2,3,4,5,6,3 gives 1;", 5, 25);
        });
        Edge.of(0, "6 brackets within ten others (at the one that opens, also of least and most).", () -> {
            fine("a:due gives " + "(".repeat(10) + "1" + ")".repeat(10) + ";");
            faulty("a:due gives " + "(".repeat(11) + "1", 6, 22);
            fine("a:due gives " + "(".repeat(9) + "least(1,2)" + ")".repeat(9) + ";");
            faulty("a:due gives " + "(".repeat(10) + "least(1,2)", 6, 27);
            faulty("a:due gives " + "most(1,".repeat(10) + "most (1,2)", 6, 12 + 70 + 5);
            fine("a:due gives " + "most(1,".repeat(10) + "2" + ")".repeat(10) + ";");
            fine("a:due gives (" + "(".repeat(9) + "1" + ")".repeat(9) + "+" + "(".repeat(9) + "1" + ")".repeat(9) + ");");
            fine("a:due when " + "(".repeat(10) + "1" + ")".repeat(10) + "=1 gives " + "(".repeat(10) + "1" + ")".repeat(10) + ";");
            faulty("a:due when 1=" + "(".repeat(11), 6, 23);
        });
    }

    private static void arithmetic() {
        Edge.of(0, "NUMBERS are of 64 bits, round on", () -> {
            String power62 = "(4194304*1048576*1048576)";
            due("(" + power62 + "-1)*2+1-(" + power62 + "-1)*2", 1);
            holds(power62 + "*2<0", true);
            holds(power62 + "*2-1>0", true);
            holds(power62 + "*4=0", true);
            due(power62 + "*4+9", 9);
        });
        Edge.of(0, "/ as the machine's (towards 0), by 0 it is 0.", () -> {
            due("7/2", 3);
            due("10+(0-7)/2", 7);
            due("10+7/(0-2)", 7);
            due("(0-7)/(0-2)", 3);
            due("7/0", 0);
            due("5+(0-7)/0*9", 5);
            due("0/0+1", 1);
            String least = "(4194304*1048576*1048576*2)";
            holds(least + "/(0-1)=" + least, true);
        });
        Edge.of(0, "least and most: the lesser, the greater of both.", () -> {
            due("least(3,4)+least(4,3)*10+least(5,5)*100", 533);
            due("most(3,4)+most(4,3)*10+most(5,5)*100", 544);
            due("10+least(0-1,1)", 9);
            due("10+most(0-1,0-2)", 9);
        });
    }

    private static void years() {
        Edge.of(0, "TREATIES, at most 4", () -> {
            PostUnion x = new PostUnion();
            for (int k = 0; k < 4; k++) {
                Edge.gives(x, x.treaty(0, k), k);
            }
            Edge.none(x, x.treaty(0, 4), 4);
            Edge.none(x, x.clauses(4), 1);
        });
        Edge.of(0, "each in force from a YEAR (0 to 27) on", () -> {
            PostUnion x = new PostUnion();
            Edge.gives(x, x.treaty(0, 27), 0);
            Edge.none(x, x.inForce(26), 6);
            Edge.gives(x, x.inForce(27), 0);
            Edge.gives(x, x.treaty(0, 0), 1);
            Edge.gives(x, x.inForce(0), 1);
            Edge.gives(x, x.inForce(26), 1);
            Edge.gives(x, x.inForce(27), 0);
        });
        Edge.of(0, "in a YEAR that which began latest holds, of like ones the later.", () -> {
            PostUnion x = new PostUnion();
            x.treaty(0, 9);
            x.treaty(0, 5);
            Edge.gives(x, x.inForce(8), 1);
            Edge.gives(x, x.inForce(9), 0);
            x.treaty(0, 9);
            Edge.gives(x, x.inForce(9), 2);
            x.treaty(0, 5);
            Edge.gives(x, x.inForce(5), 3);
            Edge.gives(x, x.inForce(27), 2);
        });
        Edge.of(0, "RESERVES, at most 40: a LAND is out of a CLAUSE of a TREATY from a DAY on, or in again.", () -> {
            PostUnion x = reserving();
            for (int k = 0; k < 40; k++) {
                Edge.yes(x, x.reserve(0, 0, 0, 100 + k, k % 2 == 0));
            }
            Edge.no(x, x.reserve(1, 0, 0, 0, true), 4);
            Edge.gives(x, x.isOut(0, 0, 0, 99), 0);
            Edge.gives(x, x.isOut(0, 0, 0, 138), 1);
            Edge.gives(x, x.isOut(0, 0, 0, 139), 0);
            Edge.gives(x, x.isOut(0, 0, 0, 9_999), 0);
        });
    }

    private static void feed() {
        Edge.of(14, "Twenty bytes come behind those on the tape, the highest of each int first: how many it has", () -> {
            PostUnion x = Check.union(2);
            Edge.is(x.feed(0x613a6475, 0x65206769, 0x76657320, 0x20202020, 0x20202020), 20);
            Edge.is(x.feed(0x34353637, 0x3b202020, 0x20202020, 0x20202020, 0x2020203f), 40);
            Edge.gives(x, x.treaty(39, 0), 0);
            Edge.gives(x, x.due(0, 1, 0, 1, 1, 0, 0), 4_567);
        });
        Edge.of(14, "the highest of each int first", () -> {
            PostUnion x = new PostUnion();
            x.feed(0xff202020, 0, 0, 0, 0);
            Edge.none(x, x.treaty(1, 0), 9);
            Edge.is(x.fault(1), 0);
            x.feed(0x202020ff, 0, 0, 0, 0);
            Edge.none(x, x.treaty(4, 0), 9);
            Edge.is(x.fault(1), 3);
        });
        Edge.of(14, "NONE if there would be more than 600.", () -> {
            PostUnion x = new PostUnion();
            for (int k = 1; k <= 30; k++) {
                Edge.is(x.feed(0x20202020, 0x20202020, 0x20202020, 0x20202020, 0x20202020), 20 * k);
            }
            Edge.is(x.feed(-1, -1, -1, -1, -1), -1);
            Edge.gives(x, x.treaty(600, 0), 0);
            Edge.is("there is room again", x.feed(0, 0, 0, 0, 0), 20);
        });
    }

    private static void treaty() {
        Edge.of(15, "The first n bytes of the tape (which is empty then) are a TREATY in force from a YEAR on: its number", () -> {
            PostUnion x = new PostUnion();
            Check.feed(x, clauses(2) + "?");
            Edge.gives(x, x.treaty(14, 3), 0);
            Edge.gives(x, x.clauses(0), 1);
            Edge.none(x, x.treaty(1, 0), 1);
            Check.feed(x, clauses(2));
            Edge.gives(x, x.treaty(28, 3), 1);
            Edge.gives(x, x.inForce(3), 1);
        });
        Edge.of(15, "The first n bytes of the tape (which is empty then)", () -> {
            PostUnion x = new PostUnion();
            x.feed(-1, -1, -1, -1, -1);
            Edge.gives(x, x.treaty(0, 0), 0);
            Edge.is(x.feed(0, 0, 0, 0, 0), 20);
        });
        Edge.of(15, "The first n bytes of the tape (which is empty then) are a TREATY", () -> {
            PostUnion x = Check.union(2);
            Check.feed(x, "abc:due gives 1;");
            Edge.none(x, x.treaty(1, 0), 9);
            Edge.is("a WORD is cut", x.fault(1), 1);
            Check.feed(x, "abcdefghi");
            Edge.none(x, x.treaty(8, 0), 9);
            Edge.is("a WORD is cut", x.fault(1), 8);
            Check.feed(x, "a:due gives 12345678;");
            Edge.none(x, x.treaty(19, 0), 9);
            Edge.is("a NUMBER is cut", x.fault(0), 2);
            Edge.is("a NUMBER is cut", x.fault(1), 19);
            Check.feed(x, "a   ");
            Edge.none(x, x.treaty(3, 0), 9);
            Edge.is("blanks are cut", x.fault(1), 3);
        });
        Edge.of(15, "1: n below 0, or more than the tape has", () -> {
            PostUnion x = new PostUnion();
            Check.feed(x, clauses(1));
            for (int n : new int[] {-1, 21, 600, LEAST, MOST}) {
                Edge.none(x, x.treaty(n, 0), 1);
            }
            Edge.none(x, x.treaty(20, 0), 9);
            Edge.none(x, x.treaty(1, 0), 1);
        });
        Edge.of(15, "the YEAR", () -> {
            PostUnion x = new PostUnion();
            for (int year : new int[] {-1, 28, LEAST, MOST}) {
                Edge.none(x, x.treaty(0, year), 1);
            }
            Edge.gives(x, x.treaty(0, 27), 0);
        });
        Edge.of(15, "4", () -> {
            PostUnion x = new PostUnion();
            for (int k = 0; k < 4; k++) {
                x.treaty(0, 0);
            }
            x.feed(-1, -1, -1, -1, -1);
            Edge.none(x, x.treaty(20, 0), 4);
            Edge.none(x, x.treaty(0, 0), 4);
            Edge.is("the tape stays as it was", x.feed(0, 0, 0, 0, 0), 40);
            Edge.none(x, x.treaty(41, 0), 1);
            Edge.none(x, x.treaty(0, 28), 1);
        });
        Edge.of(15, "9: the tape is empty then, too", () -> {
            PostUnion x = new PostUnion();
            Check.feed(x, "?" + clauses(3));
            Edge.none(x, x.treaty(43, 0), 9);
            Edge.none(x, x.clauses(0), 1);
            Edge.none(x, x.inForce(0), 6);
            Edge.is(x.feed(0, 0, 0, 0, 0), 20);
            x.treaty(0, 0);
            Edge.gives(x, Check.treaty(x, clauses(12), 0), 1);
            Edge.gives(x, x.clauses(1), 12);
        });
        Edge.of(15, "9: the tape is empty then, too", () -> {
            PostUnion x = Check.union(2);
            for (int k = 0; k < 5; k++) {
                Edge.none(x, Check.treaty(x, clauses(2) + "c:due when (1=1", 0), 9);
                Edge.none(x, Check.treaty(x, clauses(11) + "z:due gives 1+most(2*(3", 0), 9);
                Edge.none(x, Check.treaty(x, "a:due gives 1" + "+1".repeat(293), 0), 9);
            }
            Edge.gives(x, Check.treaty(x, "b:due when not 1=2 gives 3+4;a:due gives 5;", 0), 0);
            Edge.gives(x, x.clauses(0), 2);
            Edge.gives(x, x.due(0, 1, 0, 1, 1, 0, 0), 7);
        });
    }

    private static void fault() {
        Edge.of(16, "Of the latest treaty() with STATUS 0 or 9", () -> {
            PostUnion x = new PostUnion();
            Check.treaty(x, "a?", 0);
            Edge.is(x.fault(1), 1);
            x.treaty(-1, 0);
            x.treaty(0, 28);
            Edge.is("one with STATUS 1 is not looked at", x.fault(0), 1);
            Check.treaty(x, "a:a", 0);
            Edge.is(x.fault(0), 2);
            Edge.is(x.fault(1), 2);
            for (int k = 0; k < 4; k++) {
                x.treaty(0, 0);
            }
            Check.treaty(x, "?", 0);
            Edge.is("nor one with STATUS 4", x.status(), 4);
            Edge.is(x.fault(0), 0);
            Edge.is(x.fault(1), -1);
        });
        Edge.of(16, "what 0: the FAULT (0 without one)", () -> {
            PostUnion x = new PostUnion();
            x.treaty(0, 0);
            Edge.is(x.fault(0), 0);
            Check.treaty(x, "a:due from 7", 0);
            Edge.is(x.fault(0), 5);
        });
        Edge.of(16, "1: its place (NONE without).", () -> {
            PostUnion x = new PostUnion();
            Check.treaty(x, "?", 0);
            Edge.is(x.fault(1), 0);
            x.treaty(0, 0);
            Edge.is(x.fault(1), -1);
        });
        Edge.of(16, "NONE for others, and ahead of any.", () -> {
            PostUnion x = new PostUnion();
            x.treaty(1, 0);
            Edge.is(x.fault(0), -1);
            Edge.is(x.fault(1), -1);
            x.treaty(0, 0);
            for (int what : new int[] {-1, 2, LEAST, MOST}) {
                Edge.is(x.fault(what), -1);
            }
        });
    }

    private static void clausesAndForce() {
        Edge.of(17, "How many CLAUSES a TREATY has", () -> {
            PostUnion x = new PostUnion();
            x.treaty(0, 0);
            Check.treaty(x, clauses(12), 0);
            Check.treaty(x, clauses(1), 0);
            Edge.gives(x, x.clauses(0), 0);
            Edge.gives(x, x.clauses(1), 12);
            Edge.gives(x, x.clauses(2), 1);
        });
        Edge.of(17, "(1)", () -> {
            PostUnion x = new PostUnion();
            Edge.none(x, x.clauses(0), 1);
            x.treaty(0, 0);
            for (int treaty : new int[] {-1, 1, 4, LEAST, MOST}) {
                Edge.none(x, x.clauses(treaty), 1);
            }
        });
        Edge.of(18, "The TREATY in force in a YEAR (0 to 27)", () -> {
            PostUnion x = new PostUnion();
            x.treaty(0, 0);
            Edge.gives(x, x.inForce(0), 0);
            Edge.gives(x, x.inForce(27), 0);
        });
        Edge.of(18, "(1, 6)", () -> {
            PostUnion x = new PostUnion();
            for (int year : new int[] {-1, 28, LEAST, MOST}) {
                Edge.none(x, x.inForce(year), 1);
            }
        });
        Edge.of(18, "(1, 6)", () -> {
            PostUnion x = new PostUnion();
            Edge.none(x, x.inForce(27), 6);
            x.treaty(0, 10);
            Edge.none(x, x.inForce(9), 6);
            Edge.gives(x, x.inForce(10), 0);
        });
    }

    /** Two LANDS, a TREATY with two CLAUSES and one with none. */
    private static PostUnion reserving() {
        PostUnion x = Check.union(2);
        Check.treaty(x, clauses(2), 0);
        x.treaty(0, 27);
        return x;
    }

    private static void reserves() {
        Edge.of(19, "A LAND is out of a CLAUSE of a TREATY from a DAY on, or in again", () -> {
            PostUnion x = reserving();
            Edge.yes(x, x.reserve(0, 0, 0, 0, true));
            Edge.gives(x, x.isOut(0, 0, 0, 0), 1);
            Edge.yes(x, x.reserve(0, 0, 0, 9_999, false));
            Edge.gives(x, x.isOut(0, 0, 0, 9_998), 1);
            Edge.gives(x, x.isOut(0, 0, 0, 9_999), 0);
            Edge.gives(x, x.isOut(0, 0, 1, 0), 0);
            Edge.gives(x, x.isOut(1, 0, 0, 0), 0);
        });
        Edge.of(19, "A LAND is out of a CLAUSE of a TREATY", () -> {
            PostUnion x = reserving();
            x.treaty(0, 27);
            Check.treaty(x, clauses(12), 27);
            Edge.yes(x, x.reserve(1, 3, 11, 0, true));
            Edge.gives(x, x.isOut(1, 3, 11, 0), 1);
            Edge.yes(x, x.reserve(1, 3, 0, 0, true));
            Edge.gives(x, x.isOut(1, 0, 0, 0), 0);
            Edge.no(x, x.reserve(1, 0, 11, 0, true), 1);
        });
        Edge.of(19, "(1, 4, 7", () -> {
            PostUnion x = reserving();
            for (int land : new int[] {-1, 2, LEAST, MOST}) {
                Edge.no(x, x.reserve(land, 0, 0, 0, true), 1);
            }
            for (int treaty : new int[] {-1, 2, LEAST, MOST}) {
                Edge.no(x, x.reserve(0, treaty, 0, 0, true), 1);
            }
            for (int clause : new int[] {-1, 2, LEAST, MOST}) {
                Edge.no(x, x.reserve(0, 0, clause, 0, true), 1);
            }
            Edge.no(x, x.reserve(0, 1, 0, 0, true), 1);
            Edge.no(x, x.reserve(0, 0, 0, -1, true), 1);
            Edge.no(x, x.reserve(0, 0, 0, 10_000, true), 1);
        });
        Edge.of(19, "(1, 4, 7", () -> {
            PostUnion x = reserving();
            for (int k = 0; k < 40; k++) {
                x.reserve(0, 0, 0, k, k % 2 == 0);
            }
            Edge.no(x, x.reserve(1, 0, 1, 0, true), 4);
            Edge.gives(x, x.isOut(1, 0, 1, 0), 0);
        });
        Edge.of(19, "7: as it is from that DAY on by what was told", () -> {
            PostUnion x = reserving();
            Edge.no(x, x.reserve(0, 0, 0, 0, false), 7);
            Edge.yes(x, x.reserve(0, 0, 0, 10, true));
            Edge.no(x, x.reserve(0, 0, 0, 9, false), 7);
            Edge.no(x, x.reserve(0, 0, 0, 10, true), 7);
            Edge.no(x, x.reserve(0, 0, 0, 11, true), 7);
            Edge.yes(x, x.reserve(0, 0, 0, 9, true));
            Edge.yes(x, x.reserve(0, 0, 0, 10, false));
            Edge.no(x, x.reserve(0, 0, 0, 10, false), 7);
            Edge.gives(x, x.isOut(0, 0, 0, 9), 1);
        });
        Edge.of(19, "asked in this order", () -> {
            PostUnion x = reserving();
            for (int k = 0; k < 40; k++) {
                x.reserve(0, 0, 0, k, k % 2 == 0);
            }
            Edge.no(x, x.reserve(2, 0, 0, 0, false), 1);
            Edge.no(x, x.reserve(1, 0, 0, 0, false), 4);
            Edge.no(x, x.reserve(0, 0, 0, 39, false), 4);
        });
    }

    private static void isOut() {
        Edge.of(20, "Whether a LAND is out of a CLAUSE on a DAY: 1 or 0", () -> {
            PostUnion x = reserving();
            Edge.gives(x, x.isOut(1, 0, 1, 9_999), 0);
            x.reserve(1, 0, 1, 9_999, true);
            Edge.gives(x, x.isOut(1, 0, 1, 9_999), 1);
            Edge.gives(x, x.isOut(1, 0, 1, 9_998), 0);
        });
        Edge.of(20, "by the latest DAY told by then, of like ones the later telling", () -> {
            PostUnion x = reserving();
            x.reserve(0, 0, 0, 50, true);
            x.reserve(0, 0, 0, 20, true);
            x.reserve(0, 0, 0, 30, false);
            Edge.gives(x, x.isOut(0, 0, 0, 19), 0);
            Edge.gives(x, x.isOut(0, 0, 0, 20), 1);
            Edge.gives(x, x.isOut(0, 0, 0, 30), 0);
            Edge.gives(x, x.isOut(0, 0, 0, 49), 0);
            Edge.gives(x, x.isOut(0, 0, 0, 50), 1);
            x.reserve(0, 0, 0, 50, false);
            Edge.gives(x, x.isOut(0, 0, 0, 50), 0);
            x.reserve(0, 0, 0, 50, true);
            Edge.gives(x, x.isOut(0, 0, 0, 50), 1);
        });
        Edge.of(20, "(1)", () -> {
            PostUnion x = reserving();
            int[][] bad = {{-1, 0, 0, 0}, {2, 0, 0, 0}, {0, -1, 0, 0}, {0, 2, 0, 0}, {0, 0, -1, 0}, {0, 0, 2, 0}, {0, 1, 0, 0}, {0, 0, 0, -1}, {0, 0, 0, 10_000}};
            for (int[] b : bad) {
                Edge.none(x, x.isOut(b[0], b[1], b[2], b[3]), 1);
            }
        });
    }
}
