import java.util.ArrayList;
import java.util.List;
import java.util.Random;

/** The same calls, made up from fixed seeds, to the program and to the model: all answers are alike. */
public final class ModelTest {
    private final Random random;
    private final FourOnOne x = new FourOnOne();
    private final Model y = new Model();
    private final List<String> calls = new ArrayList<>();
    private int faultless = 0;
    private int wrong = 0;

    private ModelTest(long seed) {
        random = new Random(seed);
    }

    public static void main(String[] args) {
        int runs = args.length > 0 ? Integer.parseInt(args[0]) : 1500;
        long first = args.length > 1 ? Long.parseLong(args[1]) : 1;
        int calls = 0;
        int faultless = 0;
        int bad = 0;
        for (int run = 0; run < runs && bad < 5; run++) {
            ModelTest test = new ModelTest(first + run);
            test.run();
            calls += test.calls.size();
            faultless += test.faultless;
            if (test.wrong > 0) {
                bad++;
                System.out.println("seed " + (first + run) + ": " + test.calls.get(test.calls.size() - 1));
            }
        }
        System.out.println("ModelTest: " + calls + " calls in " + runs + " runs, " + faultless
            + " texts without fault, " + bad + " runs wrong");
        if (bad > 0 || faultless < runs) {
            System.exit(1);
        }
    }

    private void same(String call, long program, long model) {
        calls.add(call + ": the program answers " + program + ", the model " + model);
        if (program != model) {
            wrong++;
        }
    }

    private void same(String call, boolean program, boolean model) {
        same(call, program ? 1 : 0, model ? 1 : 0);
    }

    private boolean goesOn(int most) {
        return wrong == 0 && calls.size() < most;
    }

    private void run() {
        boolean wild = random.nextInt(4) == 0;
        while (goesOn(wild ? 440 : 400)) {
            String text = house();
            feed(wild || random.nextInt(5) == 0 ? spoilt(text) : text);
            int statements = x.house();
            same("house " + text, statements, y.house());
            faultless += statements >= 0 ? 1 : 0;
            fault();
            int most = Math.min(440, calls.size() + (wild ? 20 : 60 + random.nextInt(300)));
            while (goesOn(most)) {
                call();
            }
        }
    }

    private void feed(String text) {
        for (int at = 0; at < text.length() && goesOn(500); at += 20) {
            int[] n = new int[5];
            for (int k = 0; k < 20; k++) {
                n[k / 4] = n[k / 4] << 8 | (at + k < text.length() ? text.charAt(at + k) & 255 : 32);
            }
            same("feed", x.feed(n[0], n[1], n[2], n[3], n[4]), y.feed(n[0], n[1], n[2], n[3], n[4]));
        }
        same("end", x.end(text.length()), y.end(text.length()));
    }

    private void fault() {
        same("fault", x.fault(0), y.fault(0));
        same("place", x.fault(1), y.fault(1));
    }

    // ---- texts

    private String pick(String... of) {
        return of[random.nextInt(of.length)];
    }

    private String gap() {
        return random.nextInt(6) == 0 ? pick("\n", "  ", " \n ") : " ";
    }

    private String maybe() {
        return random.nextInt(8) == 0 ? gap() : "";
    }

    private int kinds = 0;
    private int films = 0;
    private int people = 0;

    private String house() {
        StringBuilder s = new StringBuilder();
        kinds = random.nextInt(20) == 0 ? 0 : 1 + random.nextInt(6);
        films = kinds == 0 || random.nextInt(20) == 0 ? 0 : 1 + random.nextInt(8);
        people = random.nextInt(20) == 0 ? 0 : 1 + random.nextInt(5);
        for (int k = 0; k < kinds; k++) {
            s.append(maybe()).append("kind").append(gap()).append("k").append((char) ('a' + k)).append(maybe())
                .append(";").append(maybe());
        }
        for (int f = 0; f < films; f++) {
            s.append("film").append(gap()).append("f").append((char) ('a' + f)).append(gap()).append("parts")
                .append(gap()).append(1 + random.nextInt(9)).append(" is");
            int first = random.nextInt(kinds);
            int count = 1 + random.nextInt(Math.min(kinds, 3));
            for (int k = 0; k < count; k++) {
                s.append(gap()).append("k").append((char) ('a' + (first + k) % kinds)).append(gap())
                    .append(1 + random.nextInt(9));
            }
            s.append(maybe()).append(";");
        }
        for (int p = 0; p < people; p++) {
            boolean always = random.nextInt(3) == 0;
            int from = always ? 0 : random.nextInt(24);
            int to = always ? 23 : from + random.nextInt(24 - from);
            s.append("person p").append((char) ('a' + p)).append(" at ").append(from).append(" to ").append(to)
                .append(";").append(maybe());
        }
        more(s);
        return s.toString();
    }

    private void more(StringBuilder s) {
        if (random.nextInt(3) != 0) {
            s.append("learns ").append(sum("learns", 0)).append(maybe()).append(";");
        }
        if (random.nextInt(3) != 0) {
            s.append("fades ").append(random.nextInt(3) == 0 ? sum("fades", 0) : pick("taste-1", "taste*9/10",
                "taste-hour/8", "taste+1-taste/10", "max(taste-3,0)")).append(";");
        }
        if (random.nextInt(2) == 0) {
            s.append("may ").append(random.nextInt(2) == 0 ? test("may", 0) : pick("seen<parts", "hour>5 or seen=0",
                "score<500", "not [hour>20 or hour<3]", "seen*4<parts*3")).append(";");
        }
        int count = random.nextInt(16);
        for (int k = 0; k < count; k++) {
            if (people > 0 && kinds > 0) {
                s.append("likes p").append((char) ('a' + random.nextInt(people))).append(" k")
                    .append((char) ('a' + random.nextInt(kinds))).append(gap()).append(random.nextInt(10)).append(";");
            }
        }
        for (int p = 0; p < people; p++) {
            s.append(random.nextInt(3) == 0 ? "press p" + (char) ('a' + p) + ";" : "");
        }
        s.append(random.nextInt(2) == 0 ? "screens " + (1 + random.nextInt(5)) + ";" : "");
        s.append(random.nextInt(2) == 0 ? "price " + random.nextInt(1000) + ";" : "");
        s.append(random.nextInt(2) == 0 ? "bother " + random.nextInt(100) + ";" : "");
        s.append(random.nextInt(2) == 0 ? "strange " + random.nextInt(101) + ";" : "");
        s.append(random.nextInt(30) == 0 ? "price 1;".repeat(70 + random.nextInt(20)) : "");
    }

    private String test(String owner, int depth) {
        String both = fact(owner, depth);
        while (random.nextInt(3) == 0) {
            both += " " + pick("and", "or") + " " + fact(owner, depth);
        }
        return both;
    }

    private String fact(String owner, int depth) {
        int sort = random.nextInt(depth > 7 ? 3 : 7);
        if (sort == 6) {
            return pick("not ", "not not ", "not") + fact(owner, depth + 1);
        }
        if (sort == 5) {
            return "[" + maybe() + test(owner, depth + 1) + "]";
        }
        return sort == 4 ? "all" : sum(owner, depth) + maybe() + pick("<", ">", "=") + sum(owner, depth);
    }

    private String sum(String owner, int depth) {
        String sum = part(owner, depth);
        while (random.nextInt(5) < 2) {
            sum += maybe() + pick("+", "-", "*", "/") + maybe() + part(owner, depth);
        }
        return sum;
    }

    private String part(String owner, int depth) {
        int sort = random.nextInt(depth > 7 ? 4 : 7);
        if (sort == 6) {
            return "(" + sum(owner, depth + 1) + ")";
        }
        if (sort == 5) {
            return pick("min", "max") + maybe() + "(" + sum(owner, depth + 1) + "," + sum(owner, depth + 1) + ")";
        }
        if (sort == 4) {
            return "" + random.nextInt(random.nextInt(4) == 0 ? 10000 : 10);
        }
        if (sort == 3 && owner.equals("ask")) {
            return "weight " + part(owner, depth + 1);
        }
        switch (owner) {
            case "learns": return pick("hour", "taste", "weight");
            case "fades": return pick("hour", "taste");
            case "may": return pick("hour", "parts", "seen", "score");
            default: return pick("number", "parts", "seen", "score", "worth", "hour");
        }
    }

    private String spoilt(String text) {
        StringBuilder s = new StringBuilder(text);
        int times = 1 + random.nextInt(2);
        for (int k = 0; k < times; k++) {
            int at = s.length() == 0 ? 0 : random.nextInt(s.length());
            int end = Math.min(s.length(), at + 1 + random.nextInt(3));
            switch (random.nextInt(8)) {
                case 0: s.delete(at, end); break;
                case 1: s.setLength(at); break;
                case 2: s.insert(at, (char) random.nextInt(256)); break;
                case 3: s.insert(at, pick("12345", "0", "10", "24", "9999", "100", "1000", "00009")); break;
                case 4: s.insert(at, pick(" abcdefg ", " screens ", "strange", " k ", " ka ", " pa ", "kindx", " all "));
                    break;
                case 5: s.insert(at, pick("(((((((", "[[[[[[[", " not not not not not not not ", "min(", "weight "));
                    break;
                case 6: s.insert(at, pick(";kind a;kind b;", ";film g parts 1 is ka 1;", ";person q at 1 to 2;",
                    ";press pa;press pa;", ";learns 1;", ";fades 1;", ";may all;", ";likes pa ka 3;")); break;
                default: s.insert(at, pick(" ", ";", "+", "-", "*", "/", "(", ")", "[", "]", ",", "<", "\t", "\n", "A"));
            }
        }
        return s.length() > 1600 ? s.substring(0, 1600) : s.toString();
    }

    // ---- calls

    /** A number from below 0 to beyond the last one. */
    private int one(int count) {
        return random.nextInt(20) == 0 ? pickWild() : random.nextInt(count + 2) - 1;
    }

    private int good(int count) {
        return count > 0 && random.nextInt(12) != 0 ? random.nextInt(count) : one(count);
    }

    private int pickWild() {
        int[] wild = {Integer.MIN_VALUE, Integer.MAX_VALUE, -2, 100, 1000, 10000, 9, 31, 32};
        return wild[random.nextInt(wild.length)];
    }

    private void call() {
        switch (random.nextInt(18)) {
            case 0: everything(); break;
            case 1: case 2: names(); break;
            case 3: case 4: case 5: ahead(); break;
            case 6: case 7: sofas(); break;
            case 8: told(); break;
            case 9: case 10: question(); break;
            case 11: images(); break;
            case 12: tape(); break;
            default: act();
        }
    }

    private void everything() {
        for (int what = -1; what <= 11; what++) {
            same("has " + what, x.has(what), y.has(what));
        }
        for (int what = -1; what <= 6; what++) {
            same("status " + what, x.status(what), y.status(what));
        }
        for (int p = -1; p < people; p++) {
            int k = good(kinds);
            int f = good(films);
            same("taste " + p + " " + k, x.taste(p, k), y.taste(p, k));
            same("seen " + p + " " + f, x.seen(p, f), y.seen(p, f));
        }
        fault();
    }

    private void names() {
        int a = one(3);
        int b = one(6);
        int k = one(6);
        same("letter " + a + " " + b + " " + k, x.letter(a, b, k), y.letter(a, b, k));
        int f = good(films);
        int what = random.nextInt(3) == 0 ? one(5) : 10 + one(kinds);
        same("film " + f + " " + what, x.film(f, what), y.film(f, what));
        int p = good(people);
        same("person " + p + " " + what, x.person(p, what), y.person(p, what));
        same("worth " + p + " " + f, x.worth(p, f), y.worth(p, f));
        same("suggest " + p, x.suggest(p), y.suggest(p));
        int row = good(42);
        int column = one(4);
        same("kept " + row + " " + column, x.kept(row, column), y.kept(row, column));
    }

    private void ahead() {
        int p = good(people);
        int n = random.nextInt(12) == 0 ? one(73) : random.nextInt(73);
        switch (random.nextInt(6)) {
            case 0: same("pleased " + p + " " + n, x.pleased(p, n), y.pleased(p, n)); break;
            case 1: same("refused " + p + " " + n, x.refused(p, n), y.refused(p, n)); break;
            case 2: same("pressing " + p + " " + n, x.pressing(p, n), y.pressing(p, n)); break;
            case 3: same("rest " + n, x.rest(n), y.rest(n)); break;
            case 4: {
                int k = good(kinds);
                same("gone " + p + " " + k, x.gone(p, k), y.gone(p, k));
                break;
            }
            default: same("sow " + p + " " + n, x.sow(p, n), y.sow(p, n));
        }
    }

    private void sofas() {
        int p = good(people);
        int f = good(films);
        int h = good(24);
        same("who " + p + " " + f + " " + h, x.who(p, f, h), y.who(p, f, h));
        int set = good(1 << people);
        int rule = one(3);
        same("sofa " + set + " " + rule, x.sofa(set, rule), y.sofa(set, rule));
        same("share " + p, x.share(p), y.share(p));
    }

    private void told() {
        StringBuilder rows = new StringBuilder();
        int count = random.nextInt(8) == 0 ? random.nextInt(18) : 1 + random.nextInt(3);
        for (int k = 0; k < count; k++) {
            rows.append((char) (good(24) & 255)).append((char) (good(films) & 255))
                .append((char) (random.nextInt(15) == 0 ? 2 : random.nextInt(4) / 3));
        }
        rows.append(random.nextInt(15) == 0 ? "x" : "");
        feed(rows.toString());
        same("tell", x.tell(), y.tell());
        for (int what = -1; what <= 3; what++) {
            same("pressed " + what, x.pressed(what), y.pressed(what));
        }
    }

    private void question() {
        String verb = pick("first", "last", "often", "total", "most", "least");
        boolean isTest = verb.equals("first") || verb.equals("last") || verb.equals("often");
        String text = maybe() + verb + gap() + (isTest ? test("ask", 0) : sum("ask", 0)) + maybe();
        feed(random.nextInt(5) == 0 ? spoilt(text) : text.length() > 300 ? "most worth" : text);
        int p = good(people);
        same("ask " + p + " " + text, x.ask(p), y.ask(p));
        fault();
    }

    private void images() {
        int length = x.image();
        same("image", length, y.image());
        StringBuilder bytes = new StringBuilder();
        for (int k = 0; k < length; k++) {
            bytes.append((char) y.octet(k));
        }
        for (int k = 0; k < 8; k++) {
            int at = good(length);
            same("octet " + at, x.octet(at), y.octet(at));
        }
        if (random.nextInt(2) == 0) {
            for (int k = 0; k < length && random.nextInt(2) == 0; k++) {
                int at = random.nextInt(length);
                bytes.setCharAt(at, (char) random.nextInt(random.nextInt(3) == 0 ? 256 : 5));
            }
            if (random.nextInt(3) == 0 && length > 3) {
                bytes.setCharAt(0, (char) 3);
                bytes.setCharAt(1, (char) (226 + random.nextInt(7)));
                bytes.setCharAt(2, (char) (20 + random.nextInt(5)));
            }
            int c = 53;
            for (int k = 0; k + 1 < length; k++) {
                c = (3 * c + bytes.charAt(k)) % 251;
            }
            bytes.setCharAt(length - 1, (char) (random.nextInt(8) == 0 ? random.nextInt(256) : c));
            feed(bytes.toString());
            same("on", x.on(), y.on());
        }
    }

    private void tape() {
        if (random.nextInt(6) == 0) {
            feed("x".repeat(1500 + random.nextInt(160)));
            same("feed", x.feed(1, 2, 3, 4, 5), y.feed(1, 2, 3, 4, 5));
        }
        int n = one(40);
        same("end " + n, x.end(n), y.end(n));
        same("end 0", x.end(0), y.end(0));
    }

    private void act() {
        int p = good(people);
        switch (random.nextInt(6)) {
            case 0: {
                int on = one(2);
                same("press " + p + " " + on, x.press(p, on), y.press(p, on));
                break;
            }
            case 1: {
                int f = good(films);
                same("show " + p + " " + f, x.show(p, f), y.show(p, f));
                break;
            }
            case 2: {
                int n = random.nextInt(10) == 0 ? one(101) : 1 + random.nextInt(15);
                same("hours " + n, x.hours(n), y.hours(n));
                break;
            }
            case 3: {
                int n = random.nextInt(10) == 0 ? one(101) : 1 + random.nextInt(15);
                same("chance " + n, x.chance(n), y.chance(n));
                break;
            }
            case 4: same("undo", x.undo(), y.undo()); break;
            default: {
                int seed = random.nextInt(3) == 0 ? -random.nextInt(3) : random.nextInt() >>> 1;
                same("seed " + seed, x.seed(seed), y.seed(seed));
            }
        }
    }
}
