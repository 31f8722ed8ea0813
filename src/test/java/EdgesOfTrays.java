/** Promises 1 to 9, and what the terms say of TRAYS. */
final class EdgesOfTrays {
    private static final int LEAST = Integer.MIN_VALUE;
    private static final int MOST = Integer.MAX_VALUE;

    private EdgesOfTrays() {
    }

    static void run() {
        terms();
        newObject();
        statusAndFraction();
        tray();
        write();
        fill();
        read();
        pour();
    }

    /** All four TRAYS, each of its own sort, with so many numbers. */
    private static PostUnion trays(int many) {
        PostUnion x = new PostUnion();
        for (int tray = 0; tray < 4; tray++) {
            x.tray(tray, tray, many);
        }
        return x;
    }

    private static void terms() {
        Edge.of(0, "An object is used for at most 512 calls after it has been made", () -> {
            PostUnion x = new PostUnion();
            Edge.yes(x, x.tray(0, 3, 1));
            for (int k = 3; k < 512; k++) {
                x.write(0, 0, k);
            }
            Edge.is("the 512th call", x.read(0, 0), 511);
        });
        Edge.of(0, "`NONE = -1`: None.", () -> Edge.is(PostUnion.NONE, -1));
        Edge.of(0, "TRAYS 0 to 3 are MISSING at first", () -> {
            PostUnion x = new PostUnion();
            for (int tray = 0; tray < 4; tray++) {
                Edge.none(x, x.read(tray, 0), 2);
            }
            Edge.none(x, x.read(-1, 0), 1);
            Edge.none(x, x.read(4, 0), 1);
        });
        Edge.of(0, "or rows of 0 to 60 numbers", () -> {
            PostUnion x = trays(0);
            Edge.none(x, x.read(0, 0), 3);
            Edge.yes(x, x.tray(0, 0, 60));
            Edge.gives(x, x.read(0, 59), 0);
            Edge.none(x, x.read(0, 60), 3);
        });
        Edge.of(0, "of 8 bits (sort 0), 16 (1), 32 (2) or 64 (3)", () -> {
            PostUnion x = trays(2);
            for (int sort = 0; sort < 4; sort++) {
                long most = Long.MAX_VALUE >> 64 - (8 << sort);
                x.write(sort, 0, most);
                x.write(sort, 1, most + 1);
                Edge.gives(x, x.read(sort, 0), most);
                Edge.gives(x, x.read(sort, 1), -most - 1);
            }
        });
    }

    private static void newObject() {
        Edge.of(1, "No LANDS", () -> {
            PostUnion x = new PostUnion();
            Edge.none(x, x.balance(0), 1);
            Edge.gives(x, x.land(), 0);
        });
        Edge.of(1, "TRAYS are MISSING", () -> {
            PostUnion x = new PostUnion();
            for (int tray = 0; tray < 4; tray++) {
                Edge.no(x, x.write(tray, 0, 1), 2);
            }
        });
        Edge.of(1, "an empty tape", () -> {
            PostUnion x = new PostUnion();
            Edge.none(x, x.treaty(1, 0), 1);
            Edge.is(x.feed(0, 0, 0, 0, 0), 20);
        });
        Edge.of(1, "the FRACTION 0 by 1", () -> {
            Edge.is(new PostUnion().top(), 0);
            Edge.is(new PostUnion().bottom(), 1);
        });
        Edge.of(1, "STATUS 0", () -> Edge.is(new PostUnion().status(), 0));
    }

    private static void statusAndFraction() {
        Edge.of(2, "STATUS of the latest call that has one.", () -> {
            PostUnion x = new PostUnion();
            x.read(0, 0);
            Edge.is(x.status(), 2);
            Edge.is("asked again", x.status(), 2);
            x.land();
            Edge.is(x.status(), 0);
            x.read(9, 0);
            x.top();
            x.bottom();
            x.feed(0, 0, 0, 0, 0);
            x.fault(0);
            x.fault(-7);
            Edge.is("behind those that have none", x.status(), 1);
        });
        Edge.of(2, "STATUS of the latest call that has one.", () -> {
            PostUnion x = new PostUnion();
            for (int k = 0; k < 30; k++) {
                x.feed(0, 0, 0, 0, 0);
            }
            x.read(0, 0);
            Edge.is("a tape that is full", x.feed(0, 0, 0, 0, 0), -1);
            Edge.is("has no STATUS, either", x.status(), 2);
        });
        Edge.of(3, "The top of the FRACTION told latest.", () -> {
            PostUnion x = new PostUnion();
            x.interest(365, 1_000, 1);
            Edge.is(x.top(), 1);
            x.interest(365, 1_000, 7);
            Edge.is(x.top(), 7);
            x.interest(365, 1_000, -1);
            Edge.is("one that is refused tells none", x.top(), 7);
            x.judge(0);
            Edge.is("nor do other calls", x.top(), 7);
        });
        Edge.of(4, "Its bottom, above 0.", () -> {
            PostUnion x = new PostUnion();
            x.interest(1, 1, 1);
            Edge.is(x.bottom(), 365_000);
            x.interest(1, 1, 10_001);
            Edge.is("one that is refused tells none", x.bottom(), 365_000);
            x.interest(0, 0, 0);
            Edge.is("of 0", x.bottom(), 1);
        });
    }

    private static void tray() {
        Edge.of(5, "A TRAY is a row of so many 0s", () -> {
            PostUnion x = new PostUnion();
            Edge.yes(x, x.tray(3, 3, 60));
            for (int place = 0; place < 60; place++) {
                Edge.gives(x, x.read(3, place), 0);
            }
        });
        Edge.of(5, "A TRAY is a row of so many 0s", () -> {
            PostUnion x = new PostUnion();
            x.tray(1, 3, 60);
            x.fill(1, 0, 60, 7, 0);
            Edge.yes(x, x.tray(1, 0, 1));
            Edge.gives(x, x.read(1, 0), 0);
            Edge.none(x, x.read(1, 1), 3);
            x.tray(1, 0, 60);
            Edge.gives(x, x.read(1, 59), 0);
        });
        Edge.of(5, "A TRAY is a row of so many 0s", () -> {
            PostUnion x = new PostUnion();
            Edge.yes(x, x.tray(0, 0, 0));
            Edge.none(x, x.read(0, 0), 3);
        });
        Edge.of(5, "(1)", () -> {
            PostUnion x = new PostUnion();
            for (int tray : new int[] {-1, 4, LEAST, MOST}) {
                Edge.no(x, x.tray(tray, 0, 1), 1);
            }
        });
        Edge.of(5, "(1)", () -> {
            PostUnion x = new PostUnion();
            for (int sort : new int[] {-1, 4, LEAST, MOST}) {
                Edge.no(x, x.tray(0, sort, 1), 1);
            }
            Edge.none(x, x.read(0, 0), 2);
        });
        Edge.of(5, "(1)", () -> {
            PostUnion x = new PostUnion();
            for (int many : new int[] {-1, 61, LEAST, MOST}) {
                Edge.no(x, x.tray(0, 0, many), 1);
            }
            Edge.none(x, x.read(0, 0), 2);
        });
    }

    private static void write() {
        Edge.of(6, "A number comes to a place of a TRAY", () -> {
            PostUnion x = trays(60);
            Edge.yes(x, x.write(3, 0, Long.MIN_VALUE));
            Edge.yes(x, x.write(3, 59, Long.MAX_VALUE));
            Edge.gives(x, x.read(3, 0), Long.MIN_VALUE);
            Edge.gives(x, x.read(3, 1), 0);
            Edge.gives(x, x.read(3, 58), 0);
            Edge.gives(x, x.read(3, 59), Long.MAX_VALUE);
        });
        Edge.of(6, "cut to its sort", () -> {
            PostUnion x = trays(1);
            long[] rounds = {1L << 8, 1L << 16, 1L << 32};
            for (int sort = 0; sort < 3; sort++) {
                x.write(sort, 0, rounds[sort] + 5);
                Edge.gives(x, x.read(sort, 0), 5);
                x.write(sort, 0, rounds[sort] - 1);
                Edge.gives(x, x.read(sort, 0), -1);
                x.write(sort, 0, Long.MIN_VALUE);
                Edge.gives(x, x.read(sort, 0), 0);
            }
        });
        Edge.of(6, "(1, 2, 3)", () -> {
            PostUnion x = trays(1);
            Edge.no(x, x.write(-1, 0, 1), 1);
            Edge.no(x, x.write(4, 0, 1), 1);
            Edge.no(x, x.write(4, 9, 1), 1);
        });
        Edge.of(6, "(1, 2, 3)", () -> {
            PostUnion x = new PostUnion();
            Edge.no(x, x.write(0, 0, 1), 2);
            Edge.no(x, x.write(3, 60, 1), 2);
        });
        Edge.of(6, "(1, 2, 3)", () -> {
            PostUnion x = trays(2);
            for (int place : new int[] {-1, 2, 60, LEAST, MOST}) {
                Edge.no(x, x.write(0, place, 1), 3);
            }
            x.tray(0, 0, 0);
            Edge.no(x, x.write(0, 0, 1), 3);
        });
    }

    private static void fill() {
        Edge.of(7, "So many places (1 to 60, else 1) of a TRAY from one on", () -> {
            PostUnion x = trays(60);
            Edge.yes(x, x.fill(2, 0, 60, 1, 1));
            Edge.gives(x, x.read(2, 0), 1);
            Edge.gives(x, x.read(2, 59), 60);
            Edge.yes(x, x.fill(2, 59, 1, -9, 1));
            Edge.gives(x, x.read(2, 58), 59);
            Edge.gives(x, x.read(2, 59), -9);
        });
        Edge.of(7, "So many places (1 to 60, else 1) of a TRAY from one on", () -> {
            PostUnion x = trays(60);
            for (int many : new int[] {0, -1, 61, LEAST, MOST}) {
                Edge.no(x, x.fill(0, 0, many, 1, 1), 1);
            }
            Edge.no(x, x.fill(0, 99, 0, 1, 1), 1);
            PostUnion y = new PostUnion();
            Edge.no(y, y.fill(0, 0, 61, 1, 1), 1);
        });
        Edge.of(7, "have numbers v, v and by, v and 2 by .. (round on)", () -> {
            PostUnion x = trays(3);
            Edge.yes(x, x.fill(3, 0, 3, Long.MAX_VALUE - 1, 1));
            Edge.gives(x, x.read(3, 1), Long.MAX_VALUE);
            Edge.gives(x, x.read(3, 2), Long.MIN_VALUE);
            Edge.yes(x, x.fill(3, 0, 3, 5, Long.MIN_VALUE));
            Edge.gives(x, x.read(3, 1), Long.MIN_VALUE + 5);
            Edge.gives(x, x.read(3, 2), 5);
        });
        Edge.of(7, "each cut to its sort", () -> {
            PostUnion x = trays(3);
            x.fill(0, 0, 3, 127, 1);
            Edge.gives(x, x.read(0, 0), 127);
            Edge.gives(x, x.read(0, 1), -128);
            x.fill(1, 0, 3, -32_768, -1);
            Edge.gives(x, x.read(1, 1), 32_767);
            x.fill(2, 0, 3, 0, 1L << 31);
            Edge.gives(x, x.read(2, 1), LEAST);
            Edge.gives(x, x.read(2, 2), 0);
        });
        Edge.of(7, "(1, 2, 3)", () -> {
            PostUnion x = trays(3);
            Edge.no(x, x.fill(-1, 0, 1, 1, 1), 1);
            Edge.no(x, x.fill(4, 0, 1, 1, 1), 1);
        });
        Edge.of(7, "(1, 2, 3)", () -> {
            PostUnion x = new PostUnion();
            Edge.no(x, x.fill(0, 0, 1, 1, 1), 2);
            Edge.no(x, x.fill(0, -1, 60, 1, 1), 2);
        });
        Edge.of(7, "(1, 2, 3)", () -> {
            PostUnion x = trays(3);
            Edge.no(x, x.fill(0, 3, 1, 1, 1), 3);
            Edge.no(x, x.fill(0, 1, 3, 1, 1), 3);
            Edge.no(x, x.fill(0, 0, 4, 1, 1), 3);
            Edge.no(x, x.fill(0, -1, 2, 1, 1), 3);
            Edge.no(x, x.fill(0, LEAST, 60, 1, 1), 3);
            Edge.no(x, x.fill(0, MOST, 60, 1, 1), 3);
            Edge.gives(x, x.read(0, 1), 0);
        });
    }

    private static void read() {
        Edge.of(8, "The number in a place of a TRAY", () -> {
            PostUnion x = trays(60);
            x.fill(1, 0, 60, 100, 1);
            Edge.gives(x, x.read(1, 0), 100);
            Edge.gives(x, x.read(1, 59), 159);
        });
        Edge.of(8, "STATUS tells NONE from -1", () -> {
            PostUnion x = trays(1);
            x.write(0, 0, -1);
            Edge.gives(x, x.read(0, 0), -1);
            Edge.none(x, x.read(0, 1), 3);
        });
        Edge.of(8, "(1, 2, 3)", () -> {
            PostUnion x = new PostUnion();
            for (int tray : new int[] {-1, 4, LEAST, MOST}) {
                Edge.none(x, x.read(tray, 0), 1);
            }
        });
        Edge.of(8, "(1, 2, 3)", () -> {
            PostUnion x = new PostUnion();
            Edge.none(x, x.read(0, 0), 2);
            Edge.none(x, x.read(3, -1), 2);
        });
        Edge.of(8, "(1, 2, 3)", () -> {
            PostUnion x = trays(1);
            for (int place : new int[] {-1, 1, 59, LEAST, MOST}) {
                Edge.none(x, x.read(2, place), 3);
            }
        });
    }

    /** TRAYS 0 and 1 are alike, 2 is of another sort, 3 is MISSING. */
    private static PostUnion pouring() {
        PostUnion x = new PostUnion();
        x.tray(0, 2, 60);
        x.tray(1, 2, 5);
        x.tray(2, 1, 60);
        x.fill(0, 0, 60, 1, 1);
        return x;
    }

    private static void pour() {
        Edge.of(9, "So many numbers of a TRAY, from a place on, come to another one's (or its own) place on", () -> {
            PostUnion x = pouring();
            Edge.yes(x, x.pour(0, 55, 1, 0, 5));
            Edge.gives(x, x.read(1, 0), 56);
            Edge.gives(x, x.read(1, 4), 60);
            Edge.gives(x, x.read(0, 55), 56);
            Edge.yes(x, x.pour(0, 0, 0, 0, 60));
            Edge.gives(x, x.read(0, 59), 60);
        });
        Edge.of(9, "So many numbers of a TRAY", () -> {
            PostUnion x = pouring();
            Edge.yes(x, x.pour(0, 60, 1, 5, 0));
            Edge.yes(x, x.pour(0, 0, 1, 0, 0));
            Edge.gives(x, x.read(1, 0), 0);
            x.tray(1, 2, 0);
            Edge.yes(x, x.pour(1, 0, 1, 0, 0));
        });
        Edge.of(9, "as they were", () -> {
            PostUnion x = pouring();
            Edge.yes(x, x.pour(0, 0, 0, 1, 59));
            Edge.gives(x, x.read(0, 0), 1);
            Edge.gives(x, x.read(0, 1), 1);
            Edge.gives(x, x.read(0, 2), 2);
            Edge.gives(x, x.read(0, 59), 59);
            Edge.yes(x, x.pour(0, 1, 0, 0, 59));
            Edge.gives(x, x.read(0, 1), 2);
            Edge.gives(x, x.read(0, 58), 59);
            Edge.gives(x, x.read(0, 59), 59);
        });
        Edge.of(9, "1: below 0, too", () -> {
            PostUnion x = pouring();
            Edge.no(x, x.pour(-1, 0, 1, 0, 1), 1);
            Edge.no(x, x.pour(4, 0, 1, 0, 1), 1);
            Edge.no(x, x.pour(0, 0, -1, 0, 1), 1);
            Edge.no(x, x.pour(0, 0, 4, 0, 1), 1);
        });
        Edge.of(9, "1: below 0, too", () -> {
            PostUnion x = pouring();
            Edge.no(x, x.pour(0, -1, 1, 0, 1), 1);
            Edge.no(x, x.pour(0, 0, 1, -1, 1), 1);
            Edge.no(x, x.pour(0, 0, 1, 0, -1), 1);
            Edge.no(x, x.pour(0, LEAST, 1, LEAST, LEAST), 1);
        });
        Edge.of(9, "2", () -> {
            PostUnion x = pouring();
            Edge.no(x, x.pour(0, 0, 3, 0, 1), 2);
            Edge.no(x, x.pour(3, 0, 0, 0, 1), 2);
            Edge.no(x, x.pour(3, 0, 3, 0, 0), 2);
        });
        Edge.of(9, "8", () -> {
            PostUnion x = pouring();
            Edge.no(x, x.pour(0, 0, 2, 0, 1), 8);
            Edge.no(x, x.pour(2, 0, 0, 0, 0), 8);
        });
        Edge.of(9, "3", () -> {
            PostUnion x = pouring();
            Edge.no(x, x.pour(0, 60, 1, 0, 1), 3);
            Edge.no(x, x.pour(0, 56, 1, 0, 5), 3);
            Edge.no(x, x.pour(0, 0, 1, 1, 5), 3);
            Edge.no(x, x.pour(0, 0, 1, 0, 6), 3);
            Edge.no(x, x.pour(0, 61, 1, 0, 0), 3);
            Edge.no(x, x.pour(0, 0, 1, 6, 0), 3);
            Edge.no(x, x.pour(0, MOST, 1, MOST, MOST), 3);
            Edge.no(x, x.pour(0, 1, 1, 1, MOST), 3);
        });
        Edge.of(9, "asked in this order", () -> {
            PostUnion x = pouring();
            Edge.no(x, x.pour(3, 0, 2, 99, -1), 1);
            Edge.no(x, x.pour(3, 99, 2, 99, 99), 2);
            Edge.no(x, x.pour(0, 99, 2, 99, 99), 8);
            Edge.no(x, x.pour(0, 99, 1, 99, 99), 3);
        });
    }
}
