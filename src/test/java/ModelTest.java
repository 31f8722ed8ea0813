import java.util.ArrayList;
import java.util.List;
import java.util.Random;

/** Runs of drawn calls, each put to PostUnion and to the Model: every answer and STATUS must be alike. */
public final class ModelTest {
    private static int wrong;

    private Random random;
    private PostUnion x;
    private Model m;
    private List<String> log;
    private boolean broken;
    private int calm;

    public static void main(String[] args) {
        int runs = args.length > 0 ? Integer.parseInt(args[0]) : 240;
        for (int seed = 0; seed < runs && wrong < 5; seed++) {
            new ModelTest().run(seed);
            for (int k = 0; k < 10 && wrong < 5; k++) {
                new ModelTest().readTexts(seed * 10 + k);
            }
        }
        System.out.println(wrong == 0 ? "alike in " + runs + " runs" : wrong + " runs are not alike");
        if (wrong != 0) {
            System.exit(1);
        }
    }

    private void run(int seed) {
        random = new Random(seed);
        x = new PostUnion();
        m = new Model();
        log = new ArrayList<>();
        calm = random.nextInt(4) == 0 ? 4 : 25;
        int theme = seed % 8;
        if (random.nextInt(4) > 0) {
            settle();
        }
        for (int k = 0; k < 450 && !broken; k++) {
            step(theme == 0 ? random.nextInt(7) : random.nextInt(3) == 0 ? random.nextInt(7) : theme - 1);
        }
        tellBroken(seed);
    }

    private void tellBroken(int seed) {
        if (broken) {
            wrong++;
            int from = Math.max(0, log.size() - 40);
            System.out.println("seed " + seed + ":");
            log.subList(from, log.size()).forEach(System.out::println);
        }
    }

    /** A union that has begun, so that the calls which want much to be there find it. */
    private void settle() {
        int many = 3 + random.nextInt(5);
        while (m.lands < many) {
            number("land()", x.land(), () -> m.land());
        }
        int dense = 1 + random.nextInt(3);
        for (int k = 0; k < many * dense; k++) {
            road();
        }
        String text = wellFormed();
        if (text.length() <= 600) {
            feed(text);
            number("treaty(" + text.length() + ", 0)", x.treaty(text.length(), 0), () -> m.treaty(text.length(), 0));
        }
    }

    /** Texts alone, each on a new object, and what is DUE by them. */
    private void readTexts(int seed) {
        random = new Random(~seed);
        log = new ArrayList<>();
        calm = 200;
        for (int k = 0; k < 10 && !broken; k++) {
            x = new PostUnion();
            m = new Model();
            log.clear();
            for (int land = 0; land < 4; land++) {
                number("land()", x.land(), () -> m.land());
            }
            StringBuilder made = new StringBuilder(wellFormed());
            for (int change = random.nextInt(3); change > 0; change--) {
                mutate(made);
            }
            String text = made.substring(0, Math.min(600, made.length()));
            feed(text);
            int n = text.length();
            number("treaty(" + n + ", 0)", x.treaty(n, 0), () -> m.treaty(n, 0));
            for (int letter = 0; letter < 10 && x.status() != 9 && !broken; letter++) {
                mail(random.nextInt(3));
            }
        }
        tellBroken(seed);
    }

    private void same(String call, boolean hasStatus, long got, long want) {
        log.add(call + " answered " + got + ", due is " + want);
        if (got != want || x.status() != m.status) {
            broken = true;
            log.add("  STATUS is " + x.status() + ", due is " + m.status);
        }
        if (x.top() != m.top.longValueExact() || x.bottom() != m.bottom.longValueExact()) {
            broken = true;
            log.add("  the FRACTION is " + x.top() + " by " + x.bottom());
        }
        for (int what = -1; what <= 2; what++) {
            if (x.fault(what) != m.fault(what)) {
                broken = true;
                log.add("  fault(" + what + ") is " + x.fault(what) + ", due is " + m.fault(what));
            }
        }
    }

    private void flag(String call, boolean got, Model.Call want) {
        same(call, true, got ? 1 : 0, m.asked(true, want));
    }

    private void number(String call, long got, Model.Call want) {
        same(call, true, got, m.asked(false, want));
    }

    private boolean odd() {
        return random.nextInt(calm) == 0;
    }

    private int strange() {
        int[] all = {-1, -2, Integer.MIN_VALUE, Integer.MAX_VALUE, 4, 7, 60, 61, 10_000, 1_000_001, 0, 1_000_000_001};
        return all[random.nextInt(all.length)];
    }

    private int pick(int least, int most) {
        if (odd()) {
            return random.nextBoolean() ? strange() : random.nextBoolean() ? least - 1 : most + 1;
        }
        int edge = random.nextInt(8);
        return edge == 0 ? least : edge == 1 ? most : least + (int) (random.nextDouble() * ((long) most - least + 1));
    }

    private int few(int least, int most, int... often) {
        return odd() || random.nextInt(3) == 0 ? pick(least, most) : often[random.nextInt(often.length)];
    }

    private int aLand() {
        return random.nextInt(40) == 0 ? strange() : random.nextInt(Math.max(1, m.lands));
    }

    private int otherLand(int land) {
        int other = aLand();
        return other == land && random.nextInt(10) > 0 ? (land + 1) % Math.max(1, m.lands) : other;
    }

    private int aDay() {
        return few(0, 9_999, 0, 1, 2, 10, 100, 364, 365, 400, 730, 5000);
    }

    private void step(int theme) {
        if (random.nextInt(12) == 0 && m.lands < 7 || m.lands == 0) {
            number("land()", x.land(), () -> m.land());
        } else if (random.nextInt(12) == 0) {
            road();
        } else {
            switch (theme) {
                case 0: trays(); break;
                case 1: treaties(); break;
                case 2: ways(); break;
                case 3: flows(); break;
                case 4: bags(); break;
                case 5: books(); break;
                default: lands(); break;
            }
        }
    }

    private void road() {
        int a = aLand();
        int b = otherLand(a);
        int days = random.nextInt(8) == 0 ? -1 : few(1, 60, 1, 2, 3);
        int freight = random.nextInt(20) == 0 ? random.nextInt() : few(0, 10_000, 0, 1, 100, 1000);
        flag("road(" + a + ", " + b + ", " + days + ", " + freight + ")", x.road(a, b, days, freight), () -> m.road(a, b, days, freight));
    }

    private void trays() {
        int t = pick(0, 3);
        int place = pick(0, 59);
        long v = random.nextBoolean() ? random.nextLong() : random.nextInt(300) - 150;
        long by = random.nextBoolean() ? random.nextLong() : random.nextInt(300) - 150;
        int many = pick(0, 60);
        int u = random.nextBoolean() ? t : pick(0, 3);
        int at = few(0, 60, 0, 1, 2, 3);
        switch (random.nextInt(8)) {
            case 0: flag("tray(" + t + ", .., " + many + ")", x.tray(t, u, many), () -> m.tray(t, u, many)); break;
            case 1: flag("write(" + t + ", " + place + ", " + v + ")", x.write(t, place, v), () -> m.write(t, place, v)); break;
            case 2: flag("fill(" + t + ", " + at + ", " + many + ", " + v + ", " + by + ")", x.fill(t, at, many, v, by), () -> m.fill(t, at, many, v, by)); break;
            case 3: case 4: number("read(" + t + ", " + place + ")", x.read(t, place), () -> m.read(t, place)); break;
            default: {
                int p = few(0, 60, 0, 1, 5);
                int n = few(0, 60, 0, 1, 2, 9);
                flag("pour(" + t + ", " + p + ", " + u + ", " + at + ", " + n + ")", x.pour(t, p, u, at, n), () -> m.pour(t, p, u, at, n));
            }
        }
    }

    private void lands() {
        int a = aLand();
        int b = otherLand(a);
        int d = aDay();
        switch (random.nextInt(8)) {
            case 0: { int c = few(1, 1_000_000, 1, 1500, 999); flag("gold(" + a + ", " + d + ", " + c + ")", x.gold(a, d, c), () -> m.gold(a, d, c)); break; }
            case 1: case 2: { long g = odd() ? strange() : (long) (random.nextDouble() * 1_000_000_000_001L);
                number("coins(" + a + ", " + d + ", " + g + ")", x.coins(a, d, g), () -> m.coins(a, d, g)); break; }
            case 3: number("carried(" + a + ", " + b + ")", x.carried(a, b), () -> m.carried(a, b)); break;
            case 4: case 5: { int p = few(0, 1_000_000_000, 0, 100, 1000, 100_000, 70_000); flag("rate(" + a + ", " + b + ", " + p + ")", x.rate(a, b, p), () -> m.rate(a, b, p)); break; }
            case 6: number("even(" + a + ", " + b + ")", x.even(a, b), () -> m.even(a, b)); break;
            default: number("uneven()", x.uneven(), () -> m.uneven()); break;
        }
    }

    private String sum(int depth) {
        int kind = random.nextInt(depth > 3 ? 3 : 8);
        if (kind < 2) {
            return String.valueOf(random.nextInt(10) == 0 ? random.nextInt(10_000_000) : random.nextInt(1200));
        }
        if (kind == 2) {
            return Model.Parser.VARIABLES.get(random.nextInt(7));
        }
        if (kind == 3) {
            return "(" + sum(depth + 1) + ")";
        }
        if (kind == 4) {
            return (random.nextBoolean() ? "least" : "most") + blank() + "(" + sum(depth + 1) + "," + sum(depth + 1) + ")";
        }
        return sum(depth + 1) + blank() + "+-*/".charAt(random.nextInt(4)) + blank() + sum(depth + 1);
    }

    private String blank() {
        return random.nextInt(6) == 0 ? random.nextBoolean() ? " " : "\n " : "";
    }

    private String list() {
        List<Integer> all = new ArrayList<>(List.of(0, 1, 2, 3, 4, 5, 6));
        java.util.Collections.shuffle(all, random);
        StringBuilder list = new StringBuilder().append(all.get(0));
        for (int k = 1; k < 7 && random.nextInt(3) > 0; k++) {
            list.append(blank()).append(',').append(blank()).append(all.get(k));
        }
        return list.toString();
    }

    private String test() {
        StringBuilder test = new StringBuilder();
        do {
            if (test.length() > 0) {
                test.append(random.nextBoolean() ? " or " : " and ");
            }
            if (random.nextInt(4) == 0) {
                test.append("not ");
            }
            test.append(sum(2)).append("<>=".charAt(random.nextInt(3))).append(sum(2));
        } while (random.nextInt(3) == 0);
        return test.toString();
    }

    private String text() {
        StringBuilder text = new StringBuilder(wellFormed());
        if (random.nextInt(3) == 0) {
            mutate(text);
        }
        return text.toString();
    }

    /** But for a 13th CLAUSE, and a NAME told twice, now and then. */
    private String wellFormed() {
        StringBuilder text = new StringBuilder(blank());
        int many = random.nextInt(12) == 0 ? 13 : random.nextInt(6);
        for (int k = 0; k < many; k++) {
            String name = "n" + (char) ('a' + (random.nextInt(30) == 0 ? 0 : k)) + "xyzxyzx".substring(random.nextInt(8));
            text.append(name).append(blank()).append(':').append(random.nextInt(5) < 3 ? "due " : "third ");
            if (many < 13 && random.nextInt(4) == 0) {
                text.append("from ").append(list()).append(' ');
            }
            if (many < 13 && random.nextInt(4) == 0) {
                text.append("to ").append(list()).append(' ');
            }
            if (many < 13 && random.nextInt(2) == 0) {
                text.append("when ").append(test()).append(' ');
            }
            text.append("gives ").append(many < 13 ? sum(random.nextInt(3)) : "1").append(';').append(blank());
        }
        return text.toString();
    }

    private void mutate(StringBuilder text) {
        String[] pieces = {"(", "((((((((((1))))))))))", "(((((((((((1)))))))))))", ")", ",", ";", ":", "7", "00", "12345678", "A", "\u00e9", "not ", " and ", " or ", "<", "gives ",
            "due", "weight", "abcdefghi", "\t", "least(", "most(1,", "-", " from 1,1 ", "when ", "to ", "\u0000", " "};
        int at = random.nextInt(text.length() + 1);
        switch (random.nextInt(3)) {
            case 0:
                text.insert(at, pieces[random.nextInt(pieces.length)]);
                break;
            case 1:
                text.delete(at, Math.min(text.length(), at + 1 + random.nextInt(4)));
                break;
            default:
                text.setLength(at);
                break;
        }
    }

    private void feed(String text) {
        for (int k = 0; k < text.length(); k += 20) {
            int[] v = new int[5];
            for (int b = 0; b < 20; b++) {
                int sign = k + b < text.length() ? text.charAt(k + b) : 0;
                v[b / 4] = v[b / 4] << 8 | sign;
            }
            same("feed(" + text.substring(k, Math.min(text.length(), k + 20)) + ")", false, x.feed(v[0], v[1], v[2], v[3], v[4]), m.feed(v));
        }
    }

    private void treaty() {
        String text = text();
        if (text.length() > 600 && random.nextInt(5) > 0) {
            return;
        }
        feed(text);
        int n = odd() ? strange() : text.length() - (odd() ? 1 : 0);
        int year = few(0, 27, 0, 0, 1, 2);
        number("treaty(" + n + ", " + year + ")", x.treaty(n, year), () -> m.treaty(n, year));
        if (random.nextInt(3) == 0) {
            number("treaty(0, 99)", x.treaty(0, 99), () -> m.treaty(0, 99));
        }
    }

    private void treaties() {
        int treaty = few(0, 3, 0, 0, 1);
        int clause = few(0, 11, 0, 1, 2);
        int a = aLand();
        int d = aDay();
        int year = pick(0, 27);
        boolean out = random.nextInt(3) > 0;
        switch (random.nextInt(14)) {
            case 0: treaty(); break;
            case 1: number("clauses(" + treaty + ")", x.clauses(treaty), () -> m.clauses(treaty)); break;
            case 2: number("inForce(" + year + ")", x.inForce(year), () -> m.inForce(year)); break;
            case 3: flag("reserve(" + a + ", " + treaty + ", " + clause + ", " + d + ", " + out + ")", x.reserve(a, treaty, clause, d, out), () -> m.reserve(a, treaty, clause, d, out)); break;
            case 4: number("isOut(" + a + ", " + treaty + ", " + clause + ", " + d + ")", x.isOut(a, treaty, clause, d), () -> m.isOut(a, treaty, clause, d)); break;
            default: mail(random.nextInt(3)); break;
        }
    }

    private void ways() {
        if (random.nextInt(25) == 0) {
            treaty();
        } else if (random.nextInt(4) == 0) {
            road();
        } else {
            mail(3 + random.nextInt(5));
        }
    }

    private void mail(int which) {
        int a = aLand();
        int b = otherLand(a);
        int size = pick(0, 3);
        int weight = few(1, 1_000_000_000, 1, 999, 1000, 50_000);
        int pieces = few(1, 1_000_000, 1, 3, 20);
        int d = aDay();
        int via = aLand();
        int thirds = pick(0, 3);
        int what = pick(0, 6);
        String of = a + ", " + b + ", " + size + ", " + weight + ", " + pieces + ", " + d;
        switch (which) {
            case 0: number("due(" + of + ", " + thirds + ")", x.due(a, b, size, weight, pieces, d, thirds), () -> m.due(a, b, size, weight, pieces, d, thirds)); break;
            case 1: number("dueBy(" + of + ", " + thirds + ")", x.dueBy(a, b, size, weight, pieces, d, thirds), () -> m.dueBy(a, b, size, weight, pieces, d, thirds)); break;
            case 2: number("third(via " + via + ": " + of + ", " + thirds + ")", x.third(a, b, via, size, weight, pieces, d, thirds), () -> m.third(a, b, via, size, weight, pieces, d, thirds)); break;
            case 3: number("price(" + of + ")", x.price(a, b, size, weight, pieces, d), () -> m.price(a, b, size, weight, pieces, d)); break;
            case 4: number("way(" + of + ", " + what + ")", x.way(a, b, size, weight, pieces, d, what), () -> m.way(a, b, size, weight, pieces, d, what)); break;
            case 5: number("remailed(" + of + ")", x.remailed(a, b, size, weight, pieces, d), () -> m.remailed(a, b, size, weight, pieces, d)); break;
            case 6: number("remailer(" + of + ")", x.remailer(a, b, size, weight, pieces, d), () -> m.remailer(a, b, size, weight, pieces, d)); break;
            default: number("gain(" + of + ")", x.gain(a, b, size, weight, pieces, d), () -> m.gain(a, b, size, weight, pieces, d)); break;
        }
    }

    private void weeks(int t) {
        int many = random.nextInt(10) == 0 ? 51 : 52 + random.nextInt(9);
        flag("tray(" + t + ", 2, " + many + ")", x.tray(t, 2, many), () -> m.tray(t, 2, many));
        int kind = random.nextInt(5);
        for (int k = 0; k < 3 && kind > 0; k++) {
            int p = random.nextInt(40);
            int n = 1 + random.nextInt(20);
            long v = random.nextInt(kind == 1 ? 3 : 9000);
            long by = random.nextInt(kind == 2 ? 200 : 9) - 1;
            flag("fill(" + t + ", " + p + ", " + n + ", " + v + ", " + by + ")", x.fill(t, p, n, v, by), () -> m.fill(t, p, n, v, by));
        }
    }

    private void flows() {
        int a = aLand();
        int b = otherLand(a);
        int f = few(0, 7, 0, 1, 2);
        int k = few(0, 51, 0, 1, 2);
        switch (random.nextInt(16)) {
            case 0: {
                int t = random.nextInt(4);
                weeks(t);
                int size = pick(0, 3);
                int pieces = pick(1, 100);
                number("flow(" + a + ", " + b + ", " + size + ", " + pieces + ", " + t + ")", x.flow(a, b, size, pieces, t), () -> m.flow(a, b, size, pieces, t));
                break;
            }
            case 1: { int t = pick(0, 3); number("flow(" + a + ", " + b + ", 0, 1, " + t + ")", x.flow(a, b, 0, 1, t), () -> m.flow(a, b, 0, 1, t)); break; }
            case 2: number("isTrue(" + f + ")", x.isTrue(f), () -> m.isTrue(f)); break;
            case 3: { int w = pick(1, 52); int s = random.nextInt(); number("draw(" + w + ", " + s + ")", x.draw(w, s), () -> m.draw(w, s)); break; }
            case 4: case 5: number("drawn(" + k + ")", x.drawn(k), () -> m.drawn(k)); break;
            case 6: number("told(" + f + ")", x.told(f), () -> m.told(f)); break;
            case 7: { int w = random.nextInt(12) == 0 ? 3 : few(-1, 2, 0, 1, 2, 4); number("telling(" + w + ")", x.telling(w), () -> m.telling(w)); break; }
            case 8: { int w = few(0, 3, 0, 1, 2); number("tells(" + w + ")", x.tells(w), () -> m.tells(w)); break; }
            case 9: case 10: { int y = few(0, 27, 0, 1, 2); boolean by = random.nextBoolean(); number("account(" + y + ", " + by + ")", x.account(y, by), () -> m.account(y, by)); break; }
            case 11: number("owes(" + a + ", " + b + ")", x.owes(a, b), () -> m.owes(a, b)); break;
            case 12: number("balance(" + a + ")", x.balance(a), () -> m.balance(a)); break;
            case 13: if (random.nextInt(4) == 0) { treaty(); } break;
            default: number("pays(" + a + ", " + b + ")", x.pays(a, b), () -> m.pays(a, b)); break;
        }
    }

    private int known;

    private void bags() {
        int a = aLand();
        int bag = random.nextInt(20) == 0 ? pick(0, 29) : random.nextInt(m.bags() + 1);
        int d = few(0, 9_999, 0, 10, 20, 40, 60, 80, 100, 200);
        int e = few(0, 9_999, 0, 10, 20, 40, 60, 80, 100, 200);
        switch (random.nextInt(10)) {
            case 0: { int g = pick(0, 60); int l = pick(1, 365); int s = pick(0, 100_000); flag("rules(" + g + ", " + l + ", " + s + ")", x.rules(g, l, s), () -> m.rules(g, l, s)); break; }
            case 1: case 2: {
                int many = few(2, 5, 2, 3);
                int t = random.nextInt(20) == 0 ? pick(0, 3) : 0;
                List<Integer> walk = m.walk(random);
                flag("tray(0, 1, 5)", x.tray(0, 1, 5), () -> m.tray(0, 1, 5));
                for (int k = 0; k < 5; k++) {
                    int place = k;
                    long v = random.nextInt(60) == 0 ? strange() : walk.get(k);
                    flag("write(0, " + k + ", " + v + ")", x.write(0, k, v), () -> m.write(0, place, v));
                }
                int w = few(1, 1_000_000, 1, 999, 5000);
                number("bag(" + w + ", " + t + ", " + many + ", " + d + ")", x.bag(w, t, many, d), () -> m.bag(w, t, many, d));
                break;
            }
            case 3: case 4: {
                int k = few(0, 4, 0, 1, 1, 2);
                known = Math.min(9_999, known + random.nextInt(20));
                int now = random.nextInt(12) == 0 ? e : known;
                int then = random.nextInt(12) == 0 ? d : Math.max(0, now - random.nextInt(30));
                flag("handed(" + bag + ", " + k + ", " + then + ", " + now + ")", x.handed(bag, k, then, now), () -> m.handed(bag, k, then, now));
                break;
            }
            case 5: case 6: number("where(" + bag + ", " + d + ")", x.where(bag, d), () -> m.where(bag, d)); break;
            case 7: case 8: number("late(" + bag + ", " + d + ", " + e + ")", x.late(bag, d, e), () -> m.late(bag, d, e)); break;
            default: number("loses(" + a + ", " + d + ")", x.loses(a, d), () -> m.loses(a, d)); break;
        }
    }

    private void books() {
        int side = pick(0, 1);
        int features = random.nextInt(12) == 0 ? strange() : random.nextInt(random.nextBoolean() ? 1_000_000 : 300);
        switch (random.nextInt(15)) {
            case 0: case 1: case 2: case 3: case 4: {
                int number = few(0, 9_999, 1, 2, 3);
                int d = few(0, 9_999, 1, 2, 5, 20);
                int g = few(0, 1_000_000, 0, 100, 500, 1500, 3000, 99);
                number("line(" + side + ", " + number + ", " + d + ", " + g + ")", x.line(side, number, d, g), () -> m.line(side, number, d, g));
                break;
            }
            case 5: if (random.nextInt(4) == 0) { flag("close()", x.close(), () -> m.close()); } break;
            case 6: if (random.nextInt(3) == 0) { number("join()", x.join(), () -> m.join()); } break;
            case 7: { int l = pick(0, 5); if (random.nextInt(3) == 0) { number("mate(" + l + ")", x.mate(l), () -> m.mate(l)); } break; }
            case 8: { int w = pick(0, 1); if (random.nextInt(3) == 0) { number("leans(" + w + ")", x.leans(w), () -> m.leans(w)); } break; }
            case 9: case 10: { int s = pick(0, 1_000_000_000); int r = pick(0, 1000); int l = pick(0, 10_000); number("interest(" + s + ", " + r + ", " + l + ")", x.interest(s, r, l), () -> m.interest(s, r, l)); break; }
            case 11: { int f = pick(0, 5); int w = pick(0, 9); flag("weigh(" + f + ", " + w + ")", x.weigh(f, w), () -> m.weigh(f, w)); break; }
            case 12: { int r = pick(0, 9); number("rule(" + features + ", " + r + ")", x.rule(features, r), () -> m.rule(features, r)); break; }
            default: number("judge(" + features + ")", x.judge(features), () -> m.judge(features)); break;
        }
    }
}
