import java.io.IOException;
import java.nio.file.Files;
import java.nio.file.Path;

/**
 * A test of its own for each sentence of the document. The sentence is quoted, and the quote must
 * stand in the document: under its promise, or (promise 0) in what stands ahead of the promises.
 * What no test quotes is told at the end, so that no sentence is forgotten.
 */
final class Edge {
    private static final String DOCUMENT = document();
    private static final boolean[] QUOTED = new boolean[DOCUMENT.length()];

    private static int edges;
    private static int checks;
    private static int wrong;
    private static String sentence = "";

    private Edge() {
    }

    private static String document() {
        try {
            return Files.readString(Path.of("../shared/DOC.md")).replace("```text", " ").replace("```", " ")
                    .replaceAll("==== \\d\\.", " ").replaceAll("\\s+", " ");
        } catch (IOException e) {
            throw new IllegalStateException("there is no ../shared/DOC.md", e);
        }
    }

    static void of(int promise, String quote, Runnable test) {
        sentence = (promise == 0 ? "the terms" : "promise " + promise) + " [" + quote + "]";
        edges++;
        mark(promise, quote);
        int before = checks;
        test.run();
        if (checks == before) {
            blame("nothing is asked");
        }
    }

    private static int heading(int promise) {
        int at = DOCUMENT.indexOf(promise > 58 ? "## Not promised" : "## Promise " + promise + ": ");
        if (at < 0) {
            throw new IllegalStateException("the document has no promise " + promise);
        }
        return at;
    }

    private static void mark(int promise, String quote) {
        int begins = promise == 0 ? 0 : heading(promise);
        int ends = heading(promise + 1);
        int found = 0;
        for (int at = DOCUMENT.indexOf(quote, begins); at >= 0 && at + quote.length() <= ends; at = DOCUMENT.indexOf(quote, at + 1)) {
            found++;
            for (int k = 0; k < quote.length(); k++) {
                QUOTED[at + k] = true;
            }
        }
        if (found == 0) {
            blame("the document has no such sentence there");
        }
    }

    private static void blame(String why) {
        wrong++;
        String line = StackWalker.getInstance().walk(frames -> frames.filter(f -> !f.getClassName().equals("Edge")).findFirst())
                .map(f -> f.getFileName() + ":" + f.getLineNumber()).orElse("");
        System.out.println(sentence + " " + line + ": " + why);
    }

    static void is(long got, long want) {
        checks++;
        if (got != want) {
            blame("is " + got + ", due is " + want);
        }
    }

    static void is(String what, long got, long want) {
        checks++;
        if (got != want) {
            blame(what + " is " + got + ", due is " + want);
        }
    }

    static void same(String what, String got, String want) {
        checks++;
        if (!got.equals(want)) {
            blame(what + ": " + got + ", due is " + want);
        }
    }

    private static void answer(PostUnion x, long got, long want, int status) {
        checks++;
        if (got != want || x.status() != status) {
            blame("is " + got + " with STATUS " + x.status() + ", due is " + want + " with " + status);
        }
    }

    static void yes(PostUnion x, boolean got) {
        answer(x, got ? 1 : 0, 1, 0);
    }

    static void no(PostUnion x, boolean got, int status) {
        answer(x, got ? 1 : 0, 0, status);
    }

    static void gives(PostUnion x, long got, long want) {
        answer(x, got, want, 0);
    }

    static void none(PostUnion x, long got, int status) {
        answer(x, got, PostUnion.NONE, status);
    }

    /** Every letter and figure of the terms and of the promises stands in some quote. */
    private static void tellUnquoted() {
        int terms = DOCUMENT.indexOf("TRAYS 0 to 3 are MISSING");
        tellUnquoted("the terms", terms, DOCUMENT.indexOf("The constants:"));
        for (int promise = 1; promise <= 58; promise++) {
            int begins = DOCUMENT.indexOf("`: ", heading(promise));
            tellUnquoted("promise " + promise, begins, heading(promise + 1));
        }
    }

    private static void tellUnquoted(String where, int begins, int ends) {
        for (int at = begins; at < ends; at++) {
            int end = at;
            while (end < ends && !QUOTED[end]) {
                end++;
            }
            String left = DOCUMENT.substring(at, end);
            if (left.matches(".*[A-Za-z0-9].*")) {
                sentence = where;
                blame("no test quotes [" + left.strip() + "]");
            }
            at = end;
        }
    }

    static void end() {
        tellUnquoted();
        System.out.println(edges + " sentences" + (wrong == 0 ? ": all as due" : ": " + wrong + " answers are not as due"));
        if (wrong != 0) {
            System.exit(1);
        }
    }
}
