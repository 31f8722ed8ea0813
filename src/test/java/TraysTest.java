/** Promises 1 to 9. */
public final class TraysTest {
    public static void main(String[] args) {
        newObject();
        trayAndWrite();
        fill();
        pour();
        Check.end("TraysTest");
    }

    private static void newObject() {
        PostUnion x = new PostUnion();
        Check.is(1, "status", x.status(), 0);
        Check.is(3, "top", x.top(), 0);
        Check.is(4, "bottom", x.bottom(), 1);
        Check.is(1, "fault", x.fault(0), -1);
        for (int tray = 0; tray < 4; tray++) {
            Check.none(1, "read of a MISSING TRAY", x, x.read(tray, 0), 2);
        }
        Check.none(1, "no LAND", x, x.coins(0, 0, 1), 1);
        Check.none(1, "an empty tape", x, x.treaty(1, 0), 1);
        Check.is(2, "feed has no STATUS", x.feed(0, 0, 0, 0, 0), 20);
        x.top();
        x.bottom();
        x.fault(0);
        x.fault(9);
        Check.is(2, "STATUS stays", x.status(), 1);
    }

    private static void trayAndWrite() {
        PostUnion x = new PostUnion();
        int[][] bad = {{-1, 0, 1}, {4, 0, 1}, {0, -1, 1}, {0, 4, 1}, {0, 0, -1}, {0, 0, 61}};
        for (int[] b : bad) {
            Check.no(5, "tray", x, x.tray(b[0], b[1], b[2]), 1);
        }
        Check.none(5, "still MISSING", x, x.read(0, 0), 2);
        Check.yes(5, "tray of none", x, x.tray(0, 0, 0));
        Check.none(8, "a place of none", x, x.read(0, 0), 3);
        long[] cut = {0x80, 0x8000, 0x80000000L, 0x8000000000000000L};
        long[] least = {-128, -32768, -2147483648L, Long.MIN_VALUE};
        for (int sort = 0; sort < 4; sort++) {
            Check.yes(5, "tray", x, x.tray(sort, sort, 60));
            Check.gives(5, "a new number", x, x.read(sort, 59), 0);
            Check.yes(6, "write", x, x.write(sort, 59, cut[sort]));
            Check.gives(6, "cut", x, x.read(sort, 59), least[sort]);
            Check.yes(6, "write", x, x.write(sort, 0, -1));
            Check.gives(8, "-1 itself", x, x.read(sort, 0), -1);
            Check.no(6, "write behind", x, x.write(sort, 60, 1), 3);
            Check.no(6, "write below", x, x.write(sort, -1, 1), 3);
            Check.none(8, "read behind", x, x.read(sort, 60), 3);
            Check.none(8, "read below", x, x.read(sort, -1), 3);
        }
        Check.no(6, "no such TRAY", x, x.write(4, 0, 1), 1);
        Check.none(8, "no such TRAY", x, x.read(-1, 0), 1);
        PostUnion y = new PostUnion();
        Check.no(6, "MISSING", y, y.write(1, 99, 1), 2);
        Check.yes(5, "tray again", x, x.tray(3, 0, 2));
        Check.gives(5, "0s again", x, x.read(3, 0), 0);
        Check.none(5, "a shorter one", x, x.read(3, 2), 3);
    }

    private static void fill() {
        PostUnion x = new PostUnion();
        Check.no(7, "MISSING", x, x.fill(0, 0, 1, 1, 1), 2);
        Check.no(7, "none of a MISSING one", x, x.fill(0, 0, 0, 1, 1), 1);
        x.tray(0, 0, 60);
        Check.yes(7, "fill", x, x.fill(0, 0, 60, 100, 20));
        Check.gives(7, "the first", x, x.read(0, 0), 100);
        Check.gives(7, "the third, cut", x, x.read(0, 2), -116);
        Check.gives(7, "the last, cut", x, x.read(0, 59), (byte) (100 + 20 * 59));
        Check.no(7, "none", x, x.fill(0, 0, 0, 1, 1), 1);
        Check.no(7, "61", x, x.fill(0, 0, 61, 1, 1), 1);
        Check.no(7, "behind the end", x, x.fill(0, 1, 60, 1, 1), 3);
        Check.no(7, "from below", x, x.fill(0, -1, 1, 1, 1), 3);
        Check.no(7, "far behind", x, x.fill(0, Integer.MAX_VALUE, 60, 1, 1), 3);
        Check.no(7, "no TRAY", x, x.fill(4, 0, 1, 1, 1), 1);
        x.tray(1, 3, 3);
        x.fill(1, 1, 2, Long.MAX_VALUE, 1);
        Check.gives(7, "round on", x, x.read(1, 2), Long.MIN_VALUE);
        Check.gives(7, "places ahead stay", x, x.read(1, 0), 0);
    }

    private static void pour() {
        PostUnion x = new PostUnion();
        x.tray(0, 1, 10);
        x.tray(1, 2, 10);
        x.tray(2, 1, 5);
        x.fill(0, 0, 10, 1, 1);
        Check.yes(9, "to itself, ahead", x, x.pour(0, 0, 0, 2, 8));
        Check.gives(9, "as they were", x, x.read(0, 9), 8);
        Check.gives(9, "as they were", x, x.read(0, 2), 1);
        Check.gives(9, "as they were", x, x.read(0, 4), 3);
        Check.yes(9, "to itself, back", x, x.pour(0, 2, 0, 0, 8));
        Check.gives(9, "back", x, x.read(0, 7), 8);
        Check.yes(9, "to another", x, x.pour(0, 3, 2, 1, 4));
        Check.gives(9, "of another", x, x.read(2, 4), 7);
        Check.gives(9, "not ahead", x, x.read(2, 0), 0);
        Check.yes(9, "none at the end", x, x.pour(0, 10, 2, 5, 0));
        Check.no(9, "none behind the end", x, x.pour(0, 11, 2, 5, 0), 3);
        Check.no(9, "too many there", x, x.pour(0, 0, 2, 0, 6), 3);
        Check.no(9, "too many here", x, x.pour(2, 1, 0, 0, 5), 3);
        Check.no(9, "very many", x, x.pour(0, 5, 2, 5, Integer.MAX_VALUE), 3);
        Check.no(9, "unlike sorts ahead of places", x, x.pour(0, 99, 1, 99, 99), 8);
        Check.no(9, "MISSING ahead of sorts", x, x.pour(0, 99, 3, 99, 99), 2);
        Check.no(9, "MISSING", x, x.pour(3, 0, 0, 0, 0), 2);
        int[][] bad = {{-1, 0, 0, 0, 0}, {4, 0, 0, 0, 0}, {0, -1, 0, 0, 0}, {0, 0, -1, 0, 0}, {0, 0, 4, 0, 0}, {0, 0, 0, -1, 0}, {0, 0, 3, 0, -1}};
        for (int[] b : bad) {
            Check.no(9, "below 0", x, x.pour(b[0], b[1], b[2], b[3], b[4]), 1);
        }
    }
}
