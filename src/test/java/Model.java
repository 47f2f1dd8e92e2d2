import java.util.ArrayDeque;
import java.util.ArrayList;
import java.util.Arrays;
import java.util.Deque;
import java.util.HashMap;
import java.util.List;
import java.util.Map;
import java.util.Set;

/**
 * The document a second time, as directly as it can be said: trees for formulas, whole copies for what lies ahead.
 * It shares no line with the program, so that a slip in one of them shows where the two differ.
 */
final class Model {
    static final int NONE = -1;
    static final long NOTHING = -1000000000000000L;

    private static final Set<String> OWN = Set.of("kind", "film", "parts", "is", "person", "at", "to", "likes", "press",
        "learns", "fades", "may", "screens", "price", "bother", "strange", "hour", "taste", "weight", "seen", "score",
        "worth", "number", "or", "and", "not", "all", "min", "max");

    interface Formula {
        long of(Map<String, Integer> facts);
    }

    static final class Fault extends RuntimeException {
        private static final long serialVersionUID = 1L;
        final int what;
        final int place;

        Fault(int what, int place) {
            this.what = what;
            this.place = place;
        }
    }

    record Film(String name, int parts, Map<Integer, Integer> weights) { }

    record Person(String name, int from, int to) { }

    static final class House {
        final List<String> kinds = new ArrayList<>();
        final List<Film> films = new ArrayList<>();
        final List<Person> people = new ArrayList<>();
        final Map<List<Integer>, Integer> likes = new HashMap<>();
        final List<Integer> press = new ArrayList<>();
        final Map<String, Formula> formulas = new HashMap<>();
        final Map<String, Integer> numbers = new HashMap<>(Map.of("screens", 5, "price", 0, "bother", 0, "strange", 0));

        boolean hasName(String name) {
            return kinds.contains(name) || film(name) >= 0 || person(name) >= 0;
        }

        int film(String name) {
            for (int k = 0; k < films.size(); k++) {
                if (films.get(k).name.equals(name)) {
                    return k;
                }
            }
            return -1;
        }

        int person(String name) {
            for (int k = 0; k < people.size(); k++) {
                if (people.get(k).name.equals(name)) {
                    return k;
                }
            }
            return -1;
        }

        int worth(int person, int film) {
            int worth = 0;
            for (Map.Entry<Integer, Integer> row : films.get(film).weights.entrySet()) {
                worth += row.getValue() * likes.getOrDefault(List.of(person, row.getKey()), 0);
            }
            return worth;
        }
    }

    /** Reads byte by byte. */
    static final class Text {
        final String text;
        int at = 0;
        int open = 0;
        String owner = "";

        Text(String text) {
            this.text = text;
        }

        static boolean letter(int c) {
            return c >= 'a' && c <= 'z';
        }

        static boolean digit(int c) {
            return c >= '0' && c <= '9';
        }

        int peek() {
            return at < text.length() ? text.charAt(at) : -1;
        }

        void blanks() {
            while (peek() == 32 || peek() == 10) {
                at++;
            }
        }

        /** Side by side: what stands right ahead is of the other's sort. */
        boolean glued() {
            int c = at == 0 ? -1 : text.charAt(at - 1);
            return (letter(c) || digit(c)) && (letter(peek()) || digit(peek()));
        }

        String wordAhead() {
            blanks();
            if (glued()) {
                return "";
            }
            int end = at;
            while (end < text.length() && letter(text.charAt(end))) {
                end++;
            }
            return text.substring(at, end);
        }

        boolean takes(String word) {
            if (!wordAhead().equals(word)) {
                return false;
            }
            at += word.length();
            return true;
        }

        boolean takes(char sign) {
            blanks();
            if (peek() != sign) {
                return false;
            }
            at++;
            return true;
        }

        void need(boolean there) {
            if (!there) {
                blanks();
                throw new Fault(1, at);
            }
        }

        String name() {
            String word = wordAhead();
            need(!word.isEmpty() && !OWN.contains(word));
            if (word.length() > 6) {
                throw new Fault(1, at + 6);
            }
            return word;
        }

        int number(int least, int most) {
            blanks();
            need(digit(peek()) && !glued());
            int start = at;
            while (digit(peek())) {
                if (at == start + 4) {
                    throw new Fault(1, at);
                }
                at++;
            }
            int number = Integer.parseInt(text.substring(start, at));
            if (number < least || number > most) {
                throw new Fault(2, start);
            }
            return number;
        }

        void opens() {
            open++;
            if (open > 6) {
                throw new Fault(4, at);
            }
        }

        Formula test() {
            Formula left = both();
            while (takes("or")) {
                Formula a = left;
                Formula b = both();
                left = f -> a.of(f) != 0 || b.of(f) != 0 ? 1 : 0;
            }
            return left;
        }

        Formula both() {
            Formula left = fact();
            while (takes("and")) {
                Formula a = left;
                Formula b = fact();
                left = f -> a.of(f) != 0 && b.of(f) != 0 ? 1 : 0;
            }
            return left;
        }

        Formula fact() {
            String word = wordAhead();
            if (word.equals("not")) {
                opens();
                at += 3;
                Formula a = fact();
                open--;
                return f -> a.of(f) == 0 ? 1 : 0;
            }
            if (word.equals("all")) {
                at += 3;
                return f -> 1;
            }
            if (peek() == '[') {
                opens();
                at++;
                Formula a = test();
                need(takes(']'));
                open--;
                return a;
            }
            Formula a = sum();
            blanks();
            int sign = peek();
            need(sign == '<' || sign == '>' || sign == '=');
            at++;
            Formula b = sum();
            return f -> {
                long order = Long.signum(a.of(f) - b.of(f));
                return order == (sign == '<' ? -1 : sign == '>' ? 1 : 0) ? 1 : 0;
            };
        }

        static long cut(long value) {
            return value > 1000000 ? 1000000 : value < -1000000 ? -1000000 : value;
        }

        Formula sum() {
            Formula left = product();
            while (true) {
                Formula a = left;
                if (takes('+')) {
                    Formula b = product();
                    left = f -> cut(a.of(f) + b.of(f));
                } else if (takes('-')) {
                    Formula b = product();
                    left = f -> cut(a.of(f) - b.of(f));
                } else {
                    return left;
                }
            }
        }

        Formula product() {
            Formula left = part();
            while (true) {
                Formula a = left;
                if (takes('*')) {
                    Formula b = part();
                    left = f -> cut(a.of(f) * b.of(f));
                } else if (takes('/')) {
                    Formula b = part();
                    left = f -> b.of(f) == 0 ? 0 : Math.floorDiv(a.of(f), b.of(f));
                } else {
                    return left;
                }
            }
        }

        Formula part() {
            String word = wordAhead();
            if (digit(peek())) {
                int number = number(0, 9999);
                return f -> number;
            }
            if (peek() == '(') {
                opens();
                at++;
                Formula a = sum();
                need(takes(')'));
                open--;
                return a;
            }
            if (word.equals("min") || word.equals("max")) {
                at += 3;
                blanks();
                need(peek() == '(');
                opens();
                at++;
                Formula a = sum();
                need(takes(','));
                Formula b = sum();
                need(takes(')'));
                open--;
                return word.equals("min") ? f -> Math.min(a.of(f), b.of(f)) : f -> Math.max(a.of(f), b.of(f));
            }
            if (word.equals("weight") && owner.equals("ask")) {
                opens();
                at += 6;
                Formula a = part();
                open--;
                return f -> f.getOrDefault("weight" + a.of(f), 0);
            }
            Set<String> allowed = switch (owner) {
                case "learns" -> Set.of("hour", "taste", "weight");
                case "fades" -> Set.of("hour", "taste");
                case "may" -> Set.of("hour", "parts", "seen", "score");
                default -> Set.of("number", "parts", "seen", "score", "worth", "hour");
            };
            need(allowed.contains(word));
            at += word.length();
            return f -> f.get(word);
        }

        House house() {
            House house = new House();
            int statements = 0;
            blanks();
            while (at < text.length()) {
                statements++;
                if (statements > 80) {
                    throw new Fault(5, at);
                }
                statement(house);
                need(takes(';'));
                blanks();
            }
            house.numbers.put("statements", statements);
            return house;
        }

        String newName(House house, boolean room, int start) {
            if (!room) {
                throw new Fault(5, start);
            }
            String name = name();
            if (house.hasName(name)) {
                throw new Fault(3, at);
            }
            at += name.length();
            return name;
        }

        int known(int number, String name) {
            if (number < 0) {
                throw new Fault(3, at);
            }
            at += name.length();
            return number;
        }

        void statement(House house) {
            int start = at;
            String word = wordAhead();
            at += word.length();
            switch (word) {
                case "kind" -> house.kinds.add(newName(house, house.kinds.size() < 6, start));
                case "film" -> film(house, newName(house, house.films.size() < 8, start));
                case "person" -> {
                    String name = newName(house, house.people.size() < 5, start);
                    need(takes("at"));
                    int from = number(0, 23);
                    need(takes("to"));
                    house.people.add(new Person(name, from, number(from, 23)));
                }
                case "likes" -> {
                    String who = name();
                    int person = known(house.person(who), who);
                    String what = name();
                    int kind = known(house.kinds.indexOf(what), what);
                    house.likes.put(List.of(person, kind), number(0, 9));
                }
                case "press" -> {
                    String who = name();
                    int person = house.person(who);
                    known(house.press.contains(person) ? -1 : person, who);
                    house.press.add(person);
                }
                case "learns", "fades", "may" -> {
                    if (house.formulas.containsKey(word)) {
                        throw new Fault(5, start);
                    }
                    owner = word;
                    house.formulas.put(word, word.equals("may") ? test() : sum());
                }
                case "screens" -> house.numbers.put(word, number(1, 5));
                case "price" -> house.numbers.put(word, number(0, 999));
                case "bother" -> house.numbers.put(word, number(0, 99));
                case "strange" -> house.numbers.put(word, number(0, 100));
                default -> throw new Fault(1, start);
            }
        }

        void film(House house, String name) {
            need(takes("parts"));
            int parts = number(1, 9);
            need(takes("is"));
            Map<Integer, Integer> weights = new HashMap<>();
            do {
                String what = name();
                int kind = house.kinds.indexOf(what);
                known(weights.containsKey(kind) ? -1 : kind, what);
                weights.put(kind, number(1, 9));
                blanks();
            } while (peek() != ';');
            house.films.add(new Film(name, parts, weights));
        }

        String verb = "";

        Formula question() {
            owner = "ask";
            verb = wordAhead();
            need(Set.of("first", "last", "often", "total", "most", "least").contains(verb));
            at += verb.length();
            Formula formula = Set.of("first", "last", "often").contains(verb) ? test() : sum();
            blanks();
            need(at == text.length());
            return formula;
        }
    }

    static final class Profile {
        final int[] taste = new int[6];
        final int[] seen = new int[8];
    }

    record Kept(int day, int hour, int person, int film) { }

    static final class State {
        int day = 0;
        int hour = 0;
        final Profile[] profiles = new Profile[6];
        final boolean[] presses = new boolean[5];
        final int[] saw = new int[5];
        final List<Kept> kept = new ArrayList<>();
        // Since the copy was made.
        final long[] pleased = new long[5];
        final int[] refused = new int[5];
        final List<Set<Integer>> hours = new ArrayList<>();

        State() {
            for (int k = 0; k < 6; k++) {
                profiles[k] = new Profile();
            }
        }

        State copy() {
            State s = new State();
            s.day = day;
            s.hour = hour;
            for (int k = 0; k < 6; k++) {
                System.arraycopy(profiles[k].taste, 0, s.profiles[k].taste, 0, 6);
                System.arraycopy(profiles[k].seen, 0, s.profiles[k].seen, 0, 8);
            }
            System.arraycopy(presses, 0, s.presses, 0, 5);
            System.arraycopy(saw, 0, s.saw, 0, 5);
            s.kept.addAll(kept);
            return s;
        }

        Profile of(int person) {
            return presses[person] ? profiles[person + 1] : profiles[0];
        }
    }

    private String tape = "";
    private House house = new House();
    private State state = new State();
    private int fault = 0;
    private int place = NONE;
    private List<int[]> told = new ArrayList<>();
    private final Deque<State> past = new ArrayDeque<>();
    private long x = 1;
    private List<Integer> written = List.of();
    private final int[] refusals = new int[6];

    private String takeTape() {
        String text = tape;
        tape = "";
        return text;
    }

    private boolean refuse(int what) {
        refusals[what]++;
        return false;
    }

    int feed(int a, int b, int c, int d, int e) {
        if (tape.length() > 1580) {
            refuse(0);
            return NONE;
        }
        for (int number : new int[] {a, b, c, d, e}) {
            for (int k = 3; k >= 0; k--) {
                tape += (char) (number >>> 8 * k & 255);
            }
        }
        return tape.length();
    }

    boolean end(int n) {
        if (n < 0 || n > tape.length()) {
            return refuse(0);
        }
        tape = tape.substring(0, n);
        return true;
    }

    int house() {
        try {
            House read = new Text(takeTape()).house();
            fault = 0;
            place = NONE;
            house = read;
            state = new State();
            for (int person : house.press) {
                state.presses[person] = true;
            }
            told = new ArrayList<>();
            past.clear();
            return house.numbers.get("statements");
        } catch (Fault f) {
            fault = f.what;
            place = f.place;
            refuse(1);
            return NONE;
        }
    }

    int fault(int what) {
        return what == 0 ? fault : what == 1 ? place : NONE;
    }

    int has(int what) {
        return switch (what) {
            case 0 -> house.kinds.size();
            case 1 -> house.films.size();
            case 2 -> house.people.size();
            case 3 -> house.numbers.get("screens");
            case 4 -> state.day;
            case 5 -> state.hour;
            case 6 -> {
                int count = 0;
                for (boolean one : state.presses) {
                    count += one ? 1 : 0;
                }
                yield count;
            }
            case 7 -> Arrays.stream(state.saw).sum();
            case 8 -> Math.min(40, state.kept.size());
            case 9 -> told.size();
            case 10 -> past.size();
            default -> NONE;
        };
    }

    private boolean kind(int k) {
        return k >= 0 && k < house.kinds.size();
    }

    private boolean film(int f) {
        return f >= 0 && f < house.films.size();
    }

    private boolean person(int p) {
        return p >= 0 && p < house.people.size();
    }

    int letter(int kind, int which, int k) {
        String name;
        if (kind == 0 && kind(which)) {
            name = house.kinds.get(which);
        } else if (kind == 1 && film(which)) {
            name = house.films.get(which).name;
        } else if (kind == 2 && person(which)) {
            name = house.people.get(which).name;
        } else {
            return NONE;
        }
        return k < 0 || k > 5 ? NONE : k < name.length() ? name.charAt(k) - 96 : 0;
    }

    int film(int film, int what) {
        if (!film(film)) {
            return NONE;
        }
        if (what == 0) {
            return house.films.get(film).parts;
        }
        return what < 10 || !kind(what - 10) ? NONE : house.films.get(film).weights.getOrDefault(what - 10, 0);
    }

    int person(int person, int what) {
        if (!person(person)) {
            return NONE;
        }
        return switch (what) {
            case 0 -> house.people.get(person).from;
            case 1 -> house.people.get(person).to;
            case 2 -> state.presses[person] ? 1 : 0;
            case 3 -> state.saw[person];
            default -> what < 10 || !kind(what - 10) ? NONE
                : house.likes.getOrDefault(List.of(person, what - 10), 0);
        };
    }

    int taste(int person, int kind) {
        return person != NONE && !person(person) || !kind(kind) ? NONE : state.profiles[person + 1].taste[kind];
    }

    int seen(int person, int film) {
        return person != NONE && !person(person) || !film(film) ? NONE : state.profiles[person + 1].seen[film];
    }

    private int score(Profile profile, int film) {
        int score = 1;
        for (Map.Entry<Integer, Integer> row : house.films.get(film).weights.entrySet()) {
            score += row.getValue() * profile.taste[row.getKey()];
        }
        return score;
    }

    private int suggested(State s, int person) {
        Profile profile = s.of(person);
        int best = NONE;
        for (int film = 0; film < house.films.size(); film++) {
            int parts = house.films.get(film).parts;
            Map<String, Integer> facts = Map.of("hour", s.hour, "parts", parts, "seen", profile.seen[film],
                "score", score(profile, film));
            boolean may = !house.formulas.containsKey("may") || house.formulas.get("may").of(facts) != 0;
            if (profile.seen[film] < parts && may && (best == NONE || score(profile, film) > score(profile, best))) {
                best = film;
            }
        }
        return best;
    }

    int suggest(int person) {
        return person(person) ? suggested(state, person) : NONE;
    }

    int worth(int person, int film) {
        return person(person) && film(film) ? house.worth(person, film) : NONE;
    }

    int kept(int k, int what) {
        int count = has(8);
        if (k < 0 || k >= count) {
            return NONE;
        }
        Kept row = state.kept.get(state.kept.size() - count + k);
        return switch (what) {
            case 0 -> row.day;
            case 1 -> row.hour;
            case 2 -> row.person;
            case 3 -> row.film;
            default -> NONE;
        };
    }

    private static int tasted(long value) {
        return (int) Math.max(0, Math.min(999, value));
    }

    private void see(State s, Profile profile, int who, int film) {
        profile.seen[film]++;
        int[] before = profile.taste.clone();
        for (Map.Entry<Integer, Integer> row : house.films.get(film).weights.entrySet()) {
            int kind = row.getKey();
            Map<String, Integer> facts = Map.of("hour", s.hour, "taste", before[kind], "weight", row.getValue());
            long more = house.formulas.containsKey("learns") ? house.formulas.get("learns").of(facts) : row.getValue();
            // Below is nothing: what it grows by, not what it becomes.
            profile.taste[kind] = tasted(before[kind] + tasted(more));
        }
        s.kept.add(new Kept(s.day, s.hour, who, film));
    }

    private int sees(State s, int person, int film) {
        see(s, s.of(person), person, film);
        s.saw[person] = Math.min(9999, s.saw[person] + 1);
        int pleasure = house.worth(person, film) - (s.presses[person] ? house.numbers.get("bother") : 0);
        s.pleased[person] += pleasure;
        return pleasure;
    }

    private int hour(State s) {
        int count = 0;
        Set<Integer> films = new java.util.HashSet<>();
        for (int person = 0; person < house.people.size(); person++) {
            Person p = house.people.get(person);
            if (s.hour < p.from || s.hour > p.to) {
                continue;
            }
            int film = suggested(s, person);
            if (film == NONE) {
                continue;
            }
            if (count < house.numbers.get("screens")) {
                sees(s, person, film);
                films.add(film);
                count++;
            } else {
                s.refused[person]++;
            }
        }
        s.hours.add(films);
        if (house.formulas.containsKey("fades")) {
            for (int k = 0; k <= house.people.size(); k++) {
                for (int kind = 0; kind < house.kinds.size(); kind++) {
                    int[] taste = s.profiles[k].taste;
                    taste[kind] = tasted(house.formulas.get("fades").of(Map.of("hour", s.hour, "taste", taste[kind])));
                }
            }
        }
        s.hour++;
        if (s.hour == 24) {
            s.hour = 0;
            s.day++;
        }
        return count;
    }

    private boolean can(int n, int least, int most) {
        return n >= least && n <= most && state.day * 24 + state.hour + n <= 999 * 24 + 23;
    }

    private State ahead(int n, int set) {
        State s = state.copy();
        for (int person = 0; person < 5; person++) {
            s.presses[person] = (set >> person & 1) == 1;
        }
        for (int k = 0; k < n; k++) {
            hour(s);
        }
        return s;
    }

    private int set() {
        int set = 0;
        for (int person = 0; person < 5; person++) {
            set |= state.presses[person] ? 1 << person : 0;
        }
        return set;
    }

    long pleased(int person, int n) {
        return person(person) && can(n, 0, 72) ? ahead(n, set()).pleased[person] : NOTHING;
    }

    int refused(int person, int n) {
        return person(person) && can(n, 0, 72) ? ahead(n, set()).refused[person] : NONE;
    }

    long pressing(int person, int n) {
        if (!person(person) || !can(n, 0, 72)) {
            return NOTHING;
        }
        int bit = 1 << person;
        return ahead(n, set() | bit).pleased[person] - ahead(n, set() & (31 - bit)).pleased[person];
    }

    int rest(int n) {
        if (!can(n, 0, 48)) {
            return NONE;
        }
        int best = NONE;
        Map<Integer, State> states = new HashMap<>();
        for (int set = 0; set < 1 << house.people.size(); set++) {
            states.put(set, ahead(n, set));
        }
        for (int set = 0; set < 1 << house.people.size(); set++) {
            boolean rests = true;
            for (int person = 0; person < house.people.size(); person++) {
                rests &= states.get(set ^ 1 << person).pleased[person] <= states.get(set).pleased[person];
            }
            if (rests && (best == NONE || Integer.bitCount(set) < Integer.bitCount(best))) {
                best = set;
            }
        }
        return best;
    }

    int gone(int person, int kind) {
        if (!person(person) || !kind(kind)) {
            return NONE;
        }
        for (int n = 0; n <= 72; n++) {
            if (can(n, 0, 72) && ahead(n, set()).of(person).taste[kind] == 0) {
                return n;
            }
        }
        return NONE;
    }

    int sow(int person, int n) {
        if (!person(person) || !can(n, 0, 72)) {
            return NONE;
        }
        int best = NONE;
        long most = Long.MIN_VALUE;
        for (int film = 0; film < house.films.size(); film++) {
            if (state.of(person).seen[film] < house.films.get(film).parts) {
                State s = state.copy();
                long now = sees(s, person, film);
                for (int k = 0; k < n; k++) {
                    hour(s);
                }
                if (s.pleased[person] - now > most) {
                    most = s.pleased[person] - now;
                    best = film;
                }
            }
        }
        return best;
    }

    int who(int person, int film, int hour) {
        if (!person(person) || !film(film) || hour < 0 || hour > 23) {
            return NONE;
        }
        long all = 0;
        long own = 0;
        for (int p = 0; p < house.people.size(); p++) {
            if (house.people.get(p).from <= hour && hour <= house.people.get(p).to) {
                all += house.worth(p, film) + 1;
                if (p == person) {
                    own = house.worth(p, film) + 1;
                }
            }
        }
        return all == 0 ? NONE : (int) (1000000 * own / all);
    }

    int sofa(int people, int rule) {
        if (people <= 0 || people >= 1 << house.people.size() || rule < 0 || rule > 2) {
            return NONE;
        }
        int best = NONE;
        int most = 0;
        for (int film = 0; film < house.films.size(); film++) {
            List<Integer> worths = new ArrayList<>();
            int firsts = 0;
            for (int p = 0; p < house.people.size(); p++) {
                if ((people >> p & 1) == 1) {
                    worths.add(house.worth(p, film));
                    boolean first = true;
                    for (int other = 0; other < house.films.size(); other++) {
                        int difference = house.worth(p, other) - house.worth(p, film);
                        first &= difference < 0 || difference == 0 && other >= film;
                    }
                    firsts += first ? 1 : 0;
                }
            }
            int value = rule == 0 ? worths.stream().mapToInt(w -> w).sum()
                : rule == 1 ? worths.stream().mapToInt(w -> w).min().getAsInt() : firsts;
            if (best == NONE || value > most) {
                best = film;
                most = value;
            }
        }
        return best;
    }

    int share(int person) {
        int all = has(7);
        if (!person(person) || all == 0) {
            return NONE;
        }
        int price = house.numbers.get("price");
        int left = price;
        int first = 0;
        for (int p = 4; p >= 0; p--) {
            left -= price * state.saw[p] / all;
            first = state.saw[p] >= state.saw[first] ? p : first;
        }
        return price * state.saw[person] / all + (person == first ? left : 0);
    }

    int tell() {
        String text = takeTape();
        List<int[]> rows = new ArrayList<>();
        boolean good = text.length() > 0 && text.length() <= 48 && text.length() % 3 == 0;
        for (int k = 0; good && k < text.length(); k += 3) {
            int[] row = {text.charAt(k), text.charAt(k + 1), text.charAt(k + 2)};
            rows.add(row);
            good = row[0] < 24 && film(row[1]) && row[2] < 2;
        }
        if (!good) {
            refuse(1);
            return NONE;
        }
        told = rows;
        return rows.size();
    }

    int pressed(int what) {
        int hours = 0;
        for (int[] row : told) {
            hours = Math.max(hours, row[0] + 1);
        }
        if (what < 0 || what > 2 || !can(hours, 0, 24)) {
            return NONE;
        }
        List<Integer> sets = new ArrayList<>();
        for (int set = 0; set < 1 << house.people.size(); set++) {
            State s = ahead(hours, set);
            boolean good = true;
            for (int[] row : told) {
                good &= s.hours.get(row[0]).contains(row[1]) == (row[2] == 1);
            }
            if (good) {
                sets.add(set);
            }
        }
        return what == 0 ? sets.size() : what == 1 ? sets.stream().reduce((a, b) -> a & b).orElse(0)
            : sets.stream().reduce(0, (a, b) -> a | b);
    }

    private void act() {
        past.addLast(state.copy());
        if (past.size() > 20) {
            past.removeFirst();
        }
    }

    boolean press(int person, int on) {
        if (!person(person) || on != 0 && on != 1 || state.presses[person] == (on == 1)) {
            return refuse(2);
        }
        act();
        state.presses[person] = on == 1;
        return true;
    }

    long show(int person, int film) {
        if (!person(person) || !film(film) || state.of(person).seen[film] == house.films.get(film).parts) {
            refuse(2);
            return NOTHING;
        }
        act();
        return sees(state, person, film);
    }

    int hours(int n) {
        if (!can(n, 1, 100)) {
            refuse(3);
            return NONE;
        }
        act();
        int parts = 0;
        for (int k = 0; k < n; k++) {
            parts += hour(state);
        }
        return parts;
    }

    private int draw(int m) {
        x = (1103515245L * x + 12345) % (1L << 31);
        return (int) (x / 64 % m);
    }

    int chance(int n) {
        if (!can(n, 1, 100)) {
            refuse(3);
            return NONE;
        }
        act();
        int strangers = 0;
        for (int k = 0; k < n; k++) {
            if (draw(100) < house.numbers.get("strange") && house.films.size() > 0) {
                int film = draw(house.films.size());
                if (state.profiles[0].seen[film] < house.films.get(film).parts) {
                    see(state, state.profiles[0], 9, film);
                    strangers++;
                }
            }
            hour(state);
        }
        return strangers;
    }

    boolean undo() {
        if (past.isEmpty()) {
            return refuse(4);
        }
        state = past.removeLast();
        return true;
    }

    boolean seed(int seed) {
        if (seed < 0) {
            return refuse(5);
        }
        x = seed;
        return true;
    }

    long ask(int person) {
        String text = takeTape();
        if (!person(person)) {
            return NOTHING;
        }
        Text reader = new Text(text);
        Formula formula;
        try {
            formula = reader.question();
            fault = 0;
            place = NONE;
        } catch (Fault f) {
            fault = f.what;
            place = f.place;
            return NOTHING;
        }
        List<Long> values = new ArrayList<>();
        for (int film = 0; film < house.films.size(); film++) {
            Profile profile = state.of(person);
            Map<String, Integer> facts = new HashMap<>(Map.of("number", film, "parts", house.films.get(film).parts,
                "seen", profile.seen[film], "score", score(profile, film), "worth", house.worth(person, film),
                "hour", state.hour));
            house.films.get(film).weights.forEach((kind, weight) -> facts.put("weight" + kind, weight));
            values.add(formula.of(facts));
        }
        return switch (reader.verb) {
            case "first" -> values.indexOf(1L);
            case "last" -> values.lastIndexOf(1L);
            case "most" -> values.stream().mapToLong(v -> v).max().orElse(0);
            case "least" -> values.stream().mapToLong(v -> v).min().orElse(0);
            default -> values.stream().mapToLong(v -> v).sum();
        };
    }

    int image() {
        List<Integer> bytes = new ArrayList<>(List.of(state.day / 256, state.day % 256, state.hour));
        for (int k = 0; k <= house.people.size(); k++) {
            for (int kind = 0; kind < house.kinds.size(); kind++) {
                bytes.add(state.profiles[k].taste[kind] / 256);
                bytes.add(state.profiles[k].taste[kind] % 256);
            }
            for (int film = 0; film < house.films.size(); film++) {
                bytes.add(state.profiles[k].seen[film]);
            }
        }
        for (int p = 0; p < house.people.size(); p++) {
            bytes.add(state.presses[p] ? 1 : 0);
            bytes.add(state.saw[p] / 256);
            bytes.add(state.saw[p] % 256);
        }
        bytes.add(check(bytes));
        written = bytes;
        return bytes.size();
    }

    private static int check(List<Integer> bytes) {
        int c = 53;
        for (int one : bytes) {
            c = (3 * c + one) % 251;
        }
        return c;
    }

    int octet(int k) {
        return k < 0 || k >= written.size() ? NONE : written.get(k);
    }

    boolean on() {
        Deque<Integer> bytes = new ArrayDeque<>();
        for (char c : takeTape().toCharArray()) {
            bytes.add((int) c);
        }
        int people = house.people.size();
        int size = 3 + (people + 1) * (2 * house.kinds.size() + house.films.size()) + 3 * people + 1;
        if (bytes.size() != size) {
            return refuse(5);
        }
        int last = bytes.removeLast();
        if (last != check(new ArrayList<>(bytes))) {
            return refuse(5);
        }
        State s = new State();
        s.day = 256 * bytes.remove() + bytes.remove();
        s.hour = bytes.remove();
        boolean good = s.day <= 999 && s.hour <= 23;
        for (int k = 0; k <= people; k++) {
            for (int kind = 0; kind < house.kinds.size(); kind++) {
                s.profiles[k].taste[kind] = 256 * bytes.remove() + bytes.remove();
                good &= s.profiles[k].taste[kind] <= 999;
            }
            for (int film = 0; film < house.films.size(); film++) {
                s.profiles[k].seen[film] = bytes.remove();
                good &= s.profiles[k].seen[film] <= house.films.get(film).parts;
            }
        }
        for (int p = 0; p < people; p++) {
            int press = bytes.remove();
            s.presses[p] = press == 1;
            s.saw[p] = 256 * bytes.remove() + bytes.remove();
            good &= press < 2 && s.saw[p] <= 9999;
        }
        if (!good) {
            return refuse(5);
        }
        state = s;
        past.clear();
        return true;
    }

    int status(int what) {
        return what < 0 || what > 5 ? NONE : refusals[what];
    }
}
