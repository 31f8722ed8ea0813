import java.util.ArrayList;
import java.util.LinkedHashMap;
import java.util.List;
import java.util.Map;
import java.util.Set;
import java.util.TreeSet;
import java.util.function.Supplier;

/**
 * What the terms say of STATUS. A call that is refused is put to one of two objects that were made
 * alike; then both must answer alike, whatever they are asked.
 */
final class EdgesOfRefusals {
    /** STATUS numbers behind each promise, as the document tells them. */
    private static final String REFUSALS = "5:1 6:123 7:123 8:123 9:1238 10:4 11:14 12:1 13:16 15:14 17:1 18:16 19:147 20:1 21:1 22:16 23:1 24:16 25:16 26:16 27:16 28:16 29:16"
            + " 30:1 31:1 33:1234 34:1 35:1 36:16 37:16 38:1 39:16 40:16 41:16 42:16 43:16 44:1 45:12346 46:145 47:1 48:1 49:1 50:14 53:16 54:1 55:1 56:1 57:14 58:16";

    private static final Set<String> SEEN = new TreeSet<>();

    private interface Call {
        Object of(PostUnion x);
    }

    private EdgesOfRefusals() {
    }

    static void run() {
        kinds();
        order();
        withoutStatus();
        Edge.of(0, "With another STATUS than 0 a call gives NONE, or false, and changes nothing else.", () -> {
            ofTrays();
            ofLands();
            ofTreaties();
            ofMail();
            ofFlows();
            ofBags();
            ofBooks();
            ofFull();
            ofBare();
            ofCut();
            allSeen();
        });
        Edge.of(0, "changes nothing else.", EdgesOfRefusals::aFaultChangesTapeAlone);
        Edge.of(0, "changes nothing else.", EdgesOfRefusals::aFullTapeStays);
    }

    // ---- the objects

    /** Something of everything; TRAY 3 is MISSING, LAND 4 has no ROAD. */
    private static PostUnion busy() {
        PostUnion x = Check.union(5);
        x.gold(0, 10, 2_000);
        x.gold(1, 20, 500);
        x.road(0, 1, 3, 100);
        x.road(1, 2, 4, 50);
        x.road(2, 3, 5, 10);
        x.road(0, 2, 9, 400);
        Check.treaty(x, "a:due gives weight/pieces;b:third gives 2;c:due gives 1;", 0);
        x.reserve(0, 0, 0, 50, true);
        x.rate(0, 2, 900);
        x.rate(1, 2, 100);
        x.tray(0, 2, 52);
        x.fill(0, 0, 52, 1, 1);
        x.flow(0, 2, 1, 5, 0);
        x.fill(0, 0, 52, 52, -1);
        x.flow(2, 0, 0, 9, 0);
        x.draw(5, 7);
        x.telling(2);
        x.account(0, false);
        x.rules(4, 20, 100);
        Check.tray(x, 1, 0, 1, 2);
        x.tray(2, 2, 60);
        x.fill(2, 0, 60, -4, 3);
        x.bag(5_000, 1, 3, 10);
        x.bag(1_000, 1, 2, 20);
        x.handed(0, 1, 13, 14);
        x.handed(1, 0, 22, 23);
        for (int k = 0; k < 3; k++) {
            x.line(0, k, 5 * k, 100 * k);
        }
        x.line(1, 1, 6, 150);
        x.line(1, 0, 1, 30);
        x.interest(7, 8, 9);
        x.weigh(2, 5);
        x.rule(123_456, 3);
        x.rule(654_321, 4);
        Check.feed(x, "q:due gives 99;     \n");
        return x;
    }

    /** As many as can be of everything but BAGS. */
    private static PostUnion full() {
        PostUnion x = busy();
        x.land();
        x.land();
        for (int k = 2; k < 40; k++) {
            x.gold(2, k, k);
        }
        for (int k = 1; k < 40; k++) {
            x.reserve(1, 0, 1, k, k % 2 == 1);
        }
        for (int k = 1; k < 4; k++) {
            x.treaty(0, 27);
        }
        for (int k = 2; k < 8; k++) {
            x.flow(1, 2, 0, 1, 0);
        }
        for (int k = 0; k < 12; k++) {
            x.line(k % 2, 50 + k, k, k);
        }
        for (int k = 0; k < 8; k++) {
            x.line(1, 70 + k, k, k);
            x.line(0, 80 + k, k, k);
        }
        for (int k = 2; k < 20; k++) {
            x.rule(1_000 * k, k % 10);
        }
        for (int k = 0; k < 30; k++) {
            x.feed(k, k, k, k, k);
        }
        return x;
    }

    private static PostUnion fullOfBags() {
        PostUnion x = busy();
        for (int k = 2; k < 30; k++) {
            x.bag(k, 1, 2, k);
        }
        for (int k = 2; k < 150; k++) {
            x.handed(k % 30, 1, k, 100 + k);
        }
        return x;
    }

    private static PostUnion cut() {
        PostUnion x = busy();
        x.road(0, 1, -1, 0);
        x.road(0, 2, -1, 0);
        return x;
    }

    private static PostUnion bare() {
        PostUnion x = Check.union(3);
        x.tray(0, 0, 52);
        x.flow(0, 1, 0, 1, 0);
        return x;
    }

    // ---- what they answer

    private static final class Told {
        private final PostUnion x;
        private final Map<String, String> all = new LinkedHashMap<>();
        private final List<Object> now = new ArrayList<>();

        Told(PostUnion x) {
            this.x = x;
        }

        void ask(Object answer) {
            now.add(answer);
            now.add(x.status());
        }

        void end(String part) {
            all.put(part, now.toString());
            now.clear();
        }
    }

    /** Asks for what can be seen first, and then how much room there is still: in 512 calls not for all. */
    private static Map<String, String> tell(PostUnion x, boolean countsHanded) {
        Told told = new Told(x);
        x.judge(0);
        told.ask(x.top());
        told.ask(x.bottom());
        told.end("FRACTION");
        told.ask(x.fault(0));
        told.ask(x.fault(1));
        told.end("FAULT");
        tellTrays(told, x);
        tellLands(told, x);
        tellTreaties(told, x);
        tellFlows(told, x);
        tellBags(told, x);
        tellBooks(told, x);
        tellRoom(told, x);
        if (countsHanded) {
            countHanded(told, x);
        } else {
            countGoldAndReserves(told, x);
        }
        return told.all;
    }

    private static void tellTrays(Told told, PostUnion x) {
        for (int tray = 0; tray < 4; tray++) {
            for (int place : new int[] {0, 1, 2, 3, 50, 51, 52, 59}) {
                told.ask(x.read(tray, place));
            }
            told.ask(x.write(tray, 0, 0x1_2345_6789_8765L));
            told.ask(x.read(tray, 0));
        }
        told.end("TRAYS");
    }

    private static void tellLands(Told told, PostUnion x) {
        for (int land = 0; land < 7; land++) {
            told.ask(x.coins(land, 15, 1_000));
            told.ask(x.coins(land, 9_999, 1_000));
        }
        for (int land = 1; land < 5; land++) {
            told.ask(x.carried(0, land));
            told.ask(x.way(0, land, 0, 1_000, 1, 0, 1));
        }
        told.ask(x.even(0, 2));
        told.ask(x.even(0, 1));
        told.ask(x.even(1, 2));
        told.ask(x.uneven());
        told.end("LANDS");
    }

    private static void tellTreaties(Told told, PostUnion x) {
        told.ask(x.clauses(0));
        told.ask(x.inForce(0));
        told.ask(x.inForce(27));
        for (int clause = 0; clause < 3; clause++) {
            told.ask(x.isOut(0, 0, clause, 60));
            told.ask(x.isOut(1, 0, clause, 60));
        }
        told.ask(x.due(1, 0, 0, 1_000, 3, 0, 0));
        told.ask(x.third(0, 2, 1, 0, 1, 1, 0, 1));
        told.end("TREATIES");
    }

    private static void tellFlows(Told told, PostUnion x) {
        for (int flow = 0; flow < 3; flow++) {
            told.ask(x.isTrue(flow));
            told.ask(x.told(flow));
        }
        told.ask(x.drawn(0));
        told.ask(x.drawn(4));
        told.ask(x.drawn(5));
        for (int k = 0; k < 3; k++) {
            told.ask(x.tells(k));
            told.ask(x.balance(k));
        }
        told.ask(x.owes(0, 2));
        told.ask(x.owes(2, 0));
        told.ask(x.pays(2, 0));
        told.end("FLOWS");
    }

    private static void tellBags(Told told, PostUnion x) {
        for (int bag = 0; bag < 3; bag++) {
            told.ask(x.where(bag, 9_999));
            told.ask(x.late(bag, 37, 22));
            told.ask(x.late(bag, 37, 37));
        }
        told.ask(x.loses(0, 60));
        told.ask(x.loses(1, 60));
        told.end("BAGS");
    }

    private static void tellBooks(Told told, PostUnion x) {
        for (int line = 0; line < 4; line++) {
            told.ask(x.mate(line));
        }
        told.ask(x.leans(0));
        told.ask(x.leans(1));
        told.ask(x.join());
        for (int features : new int[] {0, 999_999, 128_450, 649_321, 333_333}) {
            told.ask(x.judge(features));
        }
        told.end("BOOKS");
    }

    private static void tellRoom(Told told, PostUnion x) {
        Check.tray(x, 0, 0, 1);
        told.ask(x.bag(1, 0, 2, 0));
        x.tray(0, 0, 52);
        told.ask(x.flow(0, 1, 0, 1, 0));
        told.ask(x.line(0, 0, 0, 0));
        told.ask(x.line(1, 0, 0, 0));
        told.ask(x.rule(0, 0));
        told.ask(x.land());
        told.end("ROOM");
        int length = x.feed(0x20202020, 0x20202020, 0x20202020, 0x20202020, 0x20202020);
        told.ask(length);
        told.ask(x.treaty(15, 26));
        told.ask(x.due(0, 1, 0, 1_000, 3, 9_998, 0));
        told.end("tape");
    }

    private static void countGoldAndReserves(Told told, PostUnion x) {
        int many = 0;
        while (many < 41 && x.gold(0, 0, 1)) {
            many++;
        }
        told.ask(many);
        many = 0;
        while (many < 41 && x.reserve(2, 0, 2, many, many % 2 == 0)) {
            many++;
        }
        told.ask(many);
        told.end("GOLD and RESERVES");
    }

    private static void countHanded(Told told, PostUnion x) {
        int many = 0;
        while (many < 151 && x.handed(0, 0, 9_999, 9_999)) {
            many++;
        }
        told.ask(many);
        told.end("HANDED");
    }

    // ---- the calls

    private static void refused(int promise, int status, Supplier<PostUnion> made, Call call) {
        String what = "promise " + promise + " STATUS " + status;
        SEEN.add(promise + ":" + status);
        PostUnion x = made.get();
        Object answer = call.of(x);
        Edge.is(what, x.status(), status);
        Edge.is(what + " answered " + answer, answer.equals(-1) || answer.equals(-1L) || answer.equals(false) ? 1 : 0, 1);
        boolean countsHanded = promise == 45 || promise == 46;
        Map<String, String> got = tell(x, countsHanded);
        tell(made.get(), countsHanded).forEach((part, want) -> Edge.same(what + " " + part, got.get(part), want));
    }

    private static void busy(int promise, int status, Call call) {
        refused(promise, status, EdgesOfRefusals::busy, call);
    }

    private static void ofTrays() {
        busy(5, 1, x -> x.tray(4, 0, 1));
        busy(5, 1, x -> x.tray(0, 4, 1));
        busy(5, 1, x -> x.tray(0, 0, 61));
        busy(6, 1, x -> x.write(4, 0, 1));
        busy(6, 2, x -> x.write(3, 0, 1));
        busy(6, 3, x -> x.write(0, 52, 1));
        busy(7, 1, x -> x.fill(0, 0, 0, 9, 9));
        busy(7, 1, x -> x.fill(2, 0, 61, 9, 9));
        busy(7, 2, x -> x.fill(3, 0, 1, 9, 9));
        busy(7, 3, x -> x.fill(0, 51, 2, 9, 9));
        busy(8, 1, x -> x.read(-1, 0));
        busy(8, 2, x -> x.read(3, 0));
        busy(8, 3, x -> x.read(0, 52));
        busy(9, 1, x -> x.pour(0, -1, 2, 0, 1));
        busy(9, 2, x -> x.pour(0, 0, 3, 0, 1));
        busy(9, 8, x -> x.pour(0, 0, 1, 0, 1));
        busy(9, 3, x -> x.pour(0, 50, 2, 0, 3));
        busy(9, 3, x -> x.pour(0, 0, 2, 58, 3));
    }

    private static void ofLands() {
        busy(11, 1, x -> x.gold(5, 0, 1));
        busy(11, 1, x -> x.gold(0, 0, 0));
        busy(12, 1, x -> x.coins(0, 0, -1));
        busy(13, 1, x -> x.road(0, 0, 1, 1));
        busy(13, 1, x -> x.road(0, 1, 61, 1));
        busy(13, 1, x -> x.road(0, 1, 1, 10_001));
        busy(13, 1, x -> x.road(0, 5, -1, 0));
        busy(13, 6, x -> x.road(0, 3, -1, 0));
        busy(26, 1, x -> x.carried(0, 5));
        busy(26, 6, x -> x.carried(0, 4));
        busy(30, 1, x -> x.rate(0, 0, 1));
        busy(30, 1, x -> x.rate(0, 2, 1_000_000_001));
        busy(31, 1, x -> x.even(1, 1));
    }

    private static void ofTreaties() {
        busy(15, 1, x -> x.treaty(41, 0));
        busy(15, 1, x -> x.treaty(-1, 0));
        busy(15, 1, x -> x.treaty(15, 28));
        busy(17, 1, x -> x.clauses(1));
        busy(18, 1, x -> x.inForce(28));
        busy(19, 1, x -> x.reserve(5, 0, 0, 0, true));
        busy(19, 1, x -> x.reserve(0, 0, 3, 0, true));
        busy(19, 7, x -> x.reserve(0, 0, 0, 60, true));
        busy(19, 7, x -> x.reserve(1, 0, 0, 60, false));
        busy(20, 1, x -> x.isOut(0, 0, 3, 0));
        busy(21, 1, x -> x.due(0, 0, 0, 1, 1, 0, 0));
        busy(22, 1, x -> x.dueBy(0, 1, 0, 1, 1, 0, 4));
        busy(23, 1, x -> x.third(0, 1, 2, 0, 1, 1, 0, 0));
    }

    private static void ofMail() {
        busy(24, 1, x -> x.price(0, 1, 4, 1, 1, 0));
        busy(24, 6, x -> x.price(0, 4, 0, 1, 1, 0));
        busy(25, 1, x -> x.way(0, 1, 0, 1, 1, 0, 7));
        busy(25, 6, x -> x.way(0, 4, 0, 1, 1, 0, 0));
        busy(25, 6, x -> x.way(0, 1, 0, 1, 1, 0, 6));
        busy(27, 1, x -> x.remailed(0, 1, 0, 0, 1, 0));
        busy(27, 6, x -> x.remailed(4, 0, 0, 1, 1, 0));
        busy(28, 1, x -> x.remailer(0, 1, 0, 1, 0, 0));
        busy(28, 6, x -> x.remailer(4, 0, 0, 1, 1, 0));
        busy(29, 1, x -> x.gain(0, 1, 0, 1, 1, -1));
        busy(29, 6, x -> x.gain(4, 0, 0, 1, 1, 0));
    }

    private static void ofFlows() {
        busy(33, 1, x -> x.flow(0, 0, 0, 1, 0));
        busy(33, 2, x -> x.flow(0, 1, 0, 1, 3));
        busy(33, 3, x -> x.flow(0, 1, 0, 1, 1));
        busy(33, 1, x -> x.flow(0, 1, 0, 1, 2));
        busy(34, 1, x -> x.isTrue(2));
        busy(35, 1, x -> x.draw(0, 1));
        busy(35, 1, x -> x.draw(53, 1));
        busy(35, 1, x -> x.draw(1, -1));
        busy(36, 1, x -> x.drawn(-1));
        busy(36, 6, x -> x.drawn(5));
        busy(37, 1, x -> x.told(2));
        busy(38, 1, x -> x.telling(0));
        busy(38, 1, x -> x.telling(4));
        busy(39, 1, x -> x.tells(-1));
        busy(39, 6, x -> x.tells(2));
        busy(40, 1, x -> x.account(28, false));
        busy(40, 1, x -> x.account(-1, true));
        busy(41, 1, x -> x.owes(0, 0));
        busy(42, 1, x -> x.balance(5));
        busy(43, 1, x -> x.pays(1, 1));
    }

    private static void ofBags() {
        busy(44, 1, x -> x.rules(61, 1, 1));
        busy(44, 1, x -> x.rules(0, 366, 1));
        busy(44, 1, x -> x.rules(0, 1, 100_001));
        busy(45, 1, x -> x.bag(0, 1, 2, 0));
        busy(45, 2, x -> x.bag(1, 3, 2, 0));
        busy(45, 3, x -> x.bag(1, 1, 4, 0));
        busy(45, 1, x -> x.bag(1, 0, 2, 0));
        busy(46, 1, x -> x.handed(0, 3, 30, 30));
        busy(46, 1, x -> x.handed(0, 2, 30, 29));
        busy(46, 5, x -> x.handed(0, 2, 5, 22));
        busy(47, 1, x -> x.where(2, 0));
        busy(48, 1, x -> x.late(0, 9, 9));
        busy(49, 1, x -> x.loses(5, 0));
    }

    private static void ofBooks() {
        busy(50, 1, x -> x.line(2, 0, 0, 0));
        busy(50, 1, x -> x.line(0, 0, 0, 1_000_001));
        busy(53, 1, x -> x.mate(3));
        busy(53, 6, x -> x.mate(2));
        busy(54, 1, x -> x.leans(2));
        busy(55, 1, x -> x.interest(1, 1, 10_001));
        busy(56, 1, x -> x.weigh(6, 1));
        busy(56, 1, x -> x.weigh(2, 10));
        busy(57, 1, x -> x.rule(0, 10));
        busy(58, 1, x -> x.judge(1_000_000));
    }

    private static void ofFull() {
        Supplier<PostUnion> full = EdgesOfRefusals::full;
        refused(10, 4, full, x -> x.land());
        refused(11, 4, full, x -> x.gold(0, 0, 7));
        refused(15, 4, full, x -> x.treaty(20, 0));
        refused(19, 4, full, x -> x.reserve(0, 0, 1, 0, true));
        refused(33, 4, full, x -> x.flow(0, 1, 0, 1, 0));
        refused(50, 4, full, x -> x.line(0, 0, 0, 0));
        refused(50, 4, full, x -> x.line(1, 0, 0, 0));
        refused(57, 4, full, x -> x.rule(0, 1));
        refused(45, 4, EdgesOfRefusals::fullOfBags, x -> x.bag(1, 1, 2, 0));
        refused(46, 4, EdgesOfRefusals::fullOfBags, x -> x.handed(0, 2, 9_999, 9_999));
    }

    private static void ofBare() {
        Supplier<PostUnion> bare = EdgesOfRefusals::bare;
        refused(18, 6, bare, x -> x.inForce(27));
        refused(22, 6, bare, x -> x.dueBy(0, 1, 0, 1, 1, 0, 0));
        refused(36, 6, bare, x -> x.drawn(0));
        refused(37, 6, bare, x -> x.told(0));
        refused(39, 6, bare, x -> x.tells(0));
        refused(40, 6, bare, x -> x.account(0, true));
        refused(41, 6, bare, x -> x.owes(0, 1));
        refused(42, 6, bare, x -> x.balance(0));
        refused(43, 6, bare, x -> x.pays(0, 1));
        refused(58, 6, bare, x -> x.judge(0));
    }

    private static void ofCut() {
        refused(40, 6, EdgesOfRefusals::cut, x -> x.account(0, false));
        refused(40, 6, EdgesOfRefusals::cut, x -> x.account(1, true));
        refused(45, 6, EdgesOfRefusals::cut, x -> x.bag(1, 1, 2, 0));
    }

    private static void allSeen() {
        for (String one : REFUSALS.split(" ")) {
            String[] parts = one.split(":");
            for (char status : parts[1].toCharArray()) {
                Edge.is("a refusal of " + parts[0] + " with " + status, SEEN.contains(parts[0] + ":" + status) ? 1 : 0, 1);
            }
        }
    }

    private static void aFaultChangesTapeAlone() {
        PostUnion x = busy();
        Edge.none(x, x.treaty(14, 0), 9);
        Map<String, String> got = tell(x, false);
        tell(busy(), false).forEach((part, want) -> {
            if (!part.equals("tape") && !part.equals("FAULT")) {
                Edge.same(part, got.get(part), want);
            }
        });
        PostUnion y = busy();
        y.treaty(14, 0);
        Edge.is(y.fault(0), 2);
        Edge.is(y.fault(1), 14);
        Edge.is(y.feed(0, 0, 0, 0, 0), 20);
    }

    private static void aFullTapeStays() {
        PostUnion x = new PostUnion();
        PostUnion y = new PostUnion();
        String text = "a:due gives 1;" + " ".repeat(580) + "b:due ";
        Check.feed(x, text);
        Check.feed(y, text);
        Edge.is(x.feed(-1, -1, -1, -1, -1), -1);
        Edge.is(x.treaty(600, 0), y.treaty(600, 0));
        Edge.is(x.fault(0), y.fault(0));
        Edge.is(x.fault(1), y.fault(1));
        Edge.is(x.fault(1), 600);
    }

    // ---- the STATUS numbers

    private static void kinds() {
        Edge.of(0, "1 a number that can't be; no such TRAY, LAND, CLAUSE, TREATY, FLOW, BAG, LINE.", () -> {
            PostUnion x = busy();
            Edge.none(x, x.draw(53, 0), 1);
            Edge.none(x, x.read(4, 0), 1);
            Edge.none(x, x.balance(5), 1);
            Edge.none(x, x.isOut(0, 0, 3, 0), 1);
            Edge.none(x, x.clauses(1), 1);
            Edge.none(x, x.isTrue(2), 1);
            Edge.none(x, x.where(2, 0), 1);
            Edge.none(x, x.mate(3), 1);
        });
        Edge.of(0, "2 the TRAY is MISSING.", () -> {
            PostUnion x = busy();
            Edge.no(x, x.write(3, 0, 0), 2);
            Edge.no(x, x.fill(3, 0, 1, 0, 0), 2);
            Edge.none(x, x.read(3, 0), 2);
            Edge.no(x, x.pour(3, 0, 0, 0, 0), 2);
            Edge.none(x, x.flow(0, 1, 0, 1, 3), 2);
            Edge.none(x, x.bag(1, 3, 2, 0), 2);
        });
        Edge.of(0, "3 a place that the TRAY has not, or too few numbers.", () -> {
            PostUnion x = busy();
            Edge.none(x, x.read(1, 3), 3);
            Edge.none(x, x.read(1, -1), 3);
            Edge.no(x, x.fill(1, 2, 2, 0, 0), 3);
            Edge.none(x, x.flow(0, 1, 0, 1, 1), 3);
            Edge.none(x, x.bag(1, 1, 4, 0), 3);
        });
        Edge.of(0, "4 one too many.", () -> {
            PostUnion x = full();
            Edge.none(x, x.land(), 4);
            Edge.none(x, x.rule(0, 0), 4);
        });
        Edge.of(0, "5 a DAY that is gone.", () -> {
            PostUnion x = busy();
            Edge.no(x, x.handed(0, 2, 0, 22), 5);
            Edge.yes(x, x.handed(0, 2, 0, 23));
        });
        Edge.of(0, "6 there is none such (ROAD, WAY, CLAUSE that holds, CASE).", () -> {
            PostUnion x = busy();
            Edge.no(x, x.road(0, 4, -1, 0), 6);
            Edge.none(x, x.price(0, 4, 0, 1, 1, 0), 6);
            PostUnion y = bare();
            Edge.none(y, y.dueBy(0, 1, 0, 1, 1, 0, 0), 6);
            Edge.none(y, y.judge(0), 6);
        });
        Edge.of(0, "7 it is so already.", () -> {
            PostUnion x = busy();
            Edge.no(x, x.reserve(0, 0, 0, 50, true), 7);
            Edge.no(x, x.reserve(0, 0, 0, 49, false), 7);
        });
        Edge.of(0, "8 TRAYS are of unlike sorts.", () -> {
            PostUnion x = busy();
            Edge.no(x, x.pour(0, 0, 1, 0, 1), 8);
        });
        Edge.of(0, "9 a FAULT.", () -> {
            PostUnion x = busy();
            Edge.none(x, x.treaty(1, 0), 9);
        });
        Edge.of(0, "0 else.", EdgesOfRefusals::zeroElse);
    }

    /** The calls that have a STATUS, each behind one that was refused. */
    private static void zeroElse() {
        List<Call> calls = List.of(x -> x.tray(3, 0, 1), x -> x.write(0, 0, 1), x -> x.fill(0, 0, 1, 1, 1), x -> x.read(0, 0),
                x -> x.pour(0, 0, 2, 0, 1), x -> x.land(), x -> x.gold(0, 0, 1), x -> x.coins(0, 0, 1), x -> x.road(0, 4, 1, 1),
                x -> x.road(0, 1, -1, 0), x -> x.treaty(20, 0), x -> x.clauses(0), x -> x.inForce(0), x -> x.reserve(1, 0, 0, 0, true),
                x -> x.isOut(0, 0, 0, 0), x -> x.due(0, 1, 0, 1, 1, 0, 0), x -> x.dueBy(0, 1, 0, 1, 1, 0, 0),
                x -> x.third(0, 2, 1, 0, 1, 1, 0, 1), x -> x.price(0, 1, 0, 1, 1, 0), x -> x.way(0, 1, 0, 1, 1, 0, 0),
                x -> x.carried(0, 1), x -> x.remailed(0, 1, 0, 1, 1, 0), x -> x.remailer(0, 1, 0, 1, 1, 0), x -> x.gain(0, 1, 0, 1, 1, 0),
                x -> x.rate(0, 1, 1), x -> x.even(0, 1), x -> x.uneven(), x -> x.flow(0, 1, 0, 1, 0), x -> x.isTrue(0), x -> x.draw(1, 1),
                x -> x.drawn(0), x -> x.told(0), x -> x.telling(1), x -> x.tells(0), x -> x.account(0, false), x -> x.owes(0, 1),
                x -> x.balance(0), x -> x.pays(0, 1), x -> x.rules(1, 1, 1), x -> x.bag(1, 1, 2, 0), x -> x.handed(0, 2, 30, 30),
                x -> x.where(0, 0), x -> x.late(0, 10, 0), x -> x.loses(0, 0), x -> x.line(0, 0, 0, 0), x -> x.close(), x -> x.join(),
                x -> x.mate(0), x -> x.leans(0), x -> x.interest(1, 1, 1), x -> x.weigh(0, 1), x -> x.rule(0, 0), x -> x.judge(0));
        Edge.is("the calls that have a STATUS, one of them twice", calls.size(), 57 - 5 + 1);
        for (int k = 0; k < calls.size(); k++) {
            PostUnion x = busy();
            x.read(9, 9);
            calls.get(k).of(x);
            Edge.is("call " + k, x.status(), 0);
        }
    }

    private static void order() {
        Edge.of(0, "STATUS of a call is the first of these that holds", () -> {
            PostUnion x = new PostUnion();
            Edge.no(x, x.fill(0, 99, 0, 0, 0), 1);
            Edge.no(x, x.fill(0, 99, 1, 0, 0), 2);
            Edge.no(x, x.write(4, 99, 0), 1);
            Edge.no(x, x.write(3, 99, 0), 2);
        });
        Edge.of(0, "STATUS of a call is the first of these that holds", () -> {
            PostUnion x = full();
            Edge.no(x, x.gold(7, 0, 1), 1);
            Edge.no(x, x.gold(0, 0, 1), 4);
            Edge.none(x, x.treaty(601, 0), 1);
            Edge.none(x, x.treaty(600, 0), 4);
            Edge.none(x, x.line(0, 10_000, 0, 0), 1);
            Edge.none(x, x.line(0, 0, 0, 0), 4);
            Edge.none(x, x.rule(1_000_000, 0), 1);
            Edge.none(x, x.rule(0, 0), 4);
        });
        Edge.of(0, "STATUS of a call is the first of these that holds", () -> {
            PostUnion x = fullOfBags();
            Edge.no(x, x.handed(30, 0, 0, 0), 1);
            Edge.no(x, x.handed(0, 0, 0, 0), 4);
            PostUnion y = bare();
            Edge.none(y, y.told(1), 1);
            Edge.none(y, y.told(0), 6);
            Edge.none(y, y.account(28, true), 1);
            Edge.none(y, y.account(27, true), 6);
            Edge.none(y, y.owes(2, 2), 1);
            Edge.none(y, y.owes(2, 1), 6);
            Edge.none(y, y.way(0, 1, 0, 1, 1, 0, 7), 1);
            Edge.none(y, y.way(0, 1, 0, 1, 1, 0, 6), 6);
        });
    }

    private static void withoutStatus() {
        Edge.of(0, "status(), top(), bottom(), feed(), fault() have none.", () -> {
            PostUnion x = busy();
            x.read(3, 0);
            for (int k = 0; k < 40; k++) {
                x.feed(k, k, k, k, k);
            }
            x.top();
            x.bottom();
            x.fault(0);
            x.fault(2);
            x.status();
            Edge.is(x.status(), 2);
            x.land();
            x.fault(-1);
            x.feed(0, 0, 0, 0, 0);
            Edge.is(x.status(), 0);
        });
    }
}
