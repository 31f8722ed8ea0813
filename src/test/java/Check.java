/** What the promises' tests share: they count what is wrong, and end with 1 if anything is. */
final class Check {
    private static int wrong;

    private Check() {
    }

    static void is(int promise, String what, long got, long want) {
        if (got != want) {
            wrong++;
            System.out.println("promise " + promise + ": " + what + " is " + got + ", due is " + want);
        }
    }

    static void yes(int promise, String what, PostUnion x, boolean got) {
        is(promise, what, got ? 1 : 0, 1);
        is(promise, what + " STATUS", x.status(), 0);
    }

    static void no(int promise, String what, PostUnion x, boolean got, int status) {
        is(promise, what, got ? 1 : 0, 0);
        is(promise, what + " STATUS", x.status(), status);
    }

    static void gives(int promise, String what, PostUnion x, long got, long want) {
        is(promise, what, got, want);
        is(promise, what + " STATUS", x.status(), 0);
    }

    static void none(int promise, String what, PostUnion x, long got, int status) {
        is(promise, what, got, -1);
        is(promise, what + " STATUS", x.status(), status);
    }

    static PostUnion union(int lands) {
        PostUnion x = new PostUnion();
        for (int k = 0; k < lands; k++) {
            x.land();
        }
        return x;
    }

    static void feed(PostUnion x, String text) {
        for (int k = 0; k < text.length(); k += 20) {
            int[] v = new int[5];
            for (int b = 0; b < 20; b++) {
                v[b / 4] = v[b / 4] << 8 | (k + b < text.length() ? text.charAt(k + b) & 255 : 0);
            }
            x.feed(v[0], v[1], v[2], v[3], v[4]);
        }
    }

    static int treaty(PostUnion x, String text, int year) {
        feed(x, text);
        return x.treaty(text.length(), year);
    }

    /** Numbers to a new TRAY of 64 bits. */
    static void tray(PostUnion x, int tray, long... numbers) {
        x.tray(tray, 3, numbers.length);
        for (int k = 0; k < numbers.length; k++) {
            x.write(tray, k, numbers[k]);
        }
    }

    static void end(String test) {
        System.out.println(test + (wrong == 0 ? ": all as due" : ": " + wrong + " are not as due"));
        if (wrong != 0) {
            System.exit(1);
        }
    }
}
