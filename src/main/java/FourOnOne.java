/**
 * Four on one account: people who see films by the hour, by one profile or by profiles of their own.
 *
 * Every row is made with the object and used again, so that a long run of calls makes nothing new.
 */
public final class FourOnOne {
    public static final int NONE = -1;
    public static final long NOTHING = -1000000000000000L;

    // The sorts of names, as letter() numbers them.
    private static final int KIND = 0;
    private static final int FILM = 1;
    private static final int PERSON = 2;

    // How many there can be at most.
    private static final int KINDS = 6;
    private static final int FILMS = 8;
    private static final int PEOPLE = 5;
    private static final int PROFILES = PEOPLE + 1;
    private static final int STATEMENTS = 80;
    private static final int TAPE = 1600;
    private static final int KEPT = 40;
    private static final int ACTS = 20;
    private static final int ROWS = 16;
    private static final int SETS = 32;
    private static final int IMAGE = 4 + PROFILES * (2 * KINDS + FILMS) + 3 * PEOPLE;

    private static final int DAY_HOURS = 24;
    private static final int LAST_DAY = 999;
    private static final int LAST_TIME = LAST_DAY * DAY_HOURS + DAY_HOURS - 1;
    private static final int MOST_TASTE = 999;
    private static final int MOST_SAW = 9999;
    private static final int MOST_AHEAD = 72;
    private static final int MOST_REST = 48;
    private static final int MOST_PASSED = 100;
    private static final int HELD = 1000000;
    private static final int STRANGER = 9;

    // What status() counts.
    private static final int TAPE_REFUSED = 0;
    private static final int TEXT_REFUSED = 1;
    private static final int PERSON_REFUSED = 2;
    private static final int HOURS_REFUSED = 3;
    private static final int UNDO_REFUSED = 4;
    private static final int STATE_REFUSED = 5;

    // The own words, then those that are words in a question alone; W_ is the number of each.
    private static final String WORDS =
        "kind film parts is person at to likes press learns fades may screens price bother strange hour taste weight seen score worth number or and not all min max first last often total most least ";
    private static final int OWN_WORDS = 29;
    private static final int ALL_WORDS = 35;
    private static final int W_KIND = 0;
    private static final int W_FILM = 1;
    private static final int W_PARTS = 2;
    private static final int W_IS = 3;
    private static final int W_PERSON = 4;
    private static final int W_AT = 5;
    private static final int W_TO = 6;
    private static final int W_LIKES = 7;
    private static final int W_PRESS = 8;
    private static final int W_LEARNS = 9;
    private static final int W_FADES = 10;
    private static final int W_MAY = 11;
    private static final int W_SCREENS = 12;
    private static final int W_PRICE = 13;
    private static final int W_BOTHER = 14;
    private static final int W_STRANGE = 15;
    private static final int W_HOUR = 16;
    private static final int W_TASTE = 17;
    private static final int W_WEIGHT = 18;
    private static final int W_SEEN = 19;
    private static final int W_SCORE = 20;
    private static final int W_WORTH = 21;
    private static final int W_NUMBER = 22;
    private static final int W_OR = 23;
    private static final int W_AND = 24;
    private static final int W_NOT = 25;
    private static final int W_ALL = 26;
    private static final int W_MIN = 27;
    private static final int W_MAX = 28;
    private static final int W_FIRST = 29;
    private static final int W_LAST = 30;
    private static final int W_OFTEN = 31;
    private static final int W_TOTAL = 32;
    private static final int W_MOST = 33;
    private static final int W_LEAST = 34;

    // Steps of a formula, each behind what it is of: below FACT a number itself, then FACT and a word, then these.
    private static final int FACT = 10000;
    private static final int DO_END = 20000;
    private static final int DO_NOT = 20001;
    private static final int DO_WEIGHT = 20002;
    private static final int DO_ADD = 20003;
    private static final int DO_TAKE = 20004;
    private static final int DO_TIMES = 20005;
    private static final int DO_BY = 20006;
    private static final int DO_MIN = 20007;
    private static final int DO_MAX = 20008;
    private static final int DO_LESS = 20009;
    private static final int DO_MORE = 20010;
    private static final int DO_SAME = 20011;
    private static final int DO_AND = 20012;
    private static final int DO_OR = 20013;

    private final Reader reader = new Reader();
    private final int[] tape = reader.text;
    private int fed = 0;
    private final Course now;
    private final Course ahead;
    private final Account[] past = new Account[ACTS];
    private int oldestPast = 0;
    private int pastActs = 0;
    private final int[] toldRows = new int[3 * ROWS];
    private int toldCount = 0;
    private final int[] imageBytes = new int[IMAGE];
    private int imageLength = 0;
    private final int[] setPleasures = new int[SETS * PEOPLE];
    private final int[] votes = new int[FILMS];
    private final int[] refusals = new int[STATE_REFUSED + 1];
    private int drawn = 1;

    public FourOnOne() {
        House house = new House();
        now = new Course(house);
        ahead = new Course(house);
        for (int act = 0; act < ACTS; act++) {
            past[act] = new Account();
        }
    }

    // ---- the tape and the house

    public int feed(int a, int b, int c, int d, int e) {
        if (fed + 20 > TAPE) {
            return refuse(TAPE_REFUSED);
        }
        feedNumber(a);
        feedNumber(b);
        feedNumber(c);
        feedNumber(d);
        feedNumber(e);
        return fed;
    }

    public boolean end(int n) {
        if (n < 0 || n > fed) {
            refuse(TAPE_REFUSED);
            return false;
        }
        fed = n;
        return true;
    }

    public int house() {
        int statements = reader.readHouse(takeTape());
        if (statements == NONE) {
            return refuse(TEXT_REFUSED);
        }
        House old = now.house;
        now.house = reader.house;
        reader.house = old;
        now.account.clear();
        now.account.presses = now.house.presses;
        toldCount = 0;
        forgetActs();
        return statements;
    }

    public int fault(int what) {
        if (what == 0) {
            return reader.fault;
        }
        return what == 1 ? reader.place : NONE;
    }

    public int has(int what) {
        switch (what) {
            case 0: return now.house.counts[KIND];
            case 1: return now.house.counts[FILM];
            case 2: return now.house.counts[PERSON];
            case 3: return now.house.screens;
            case 4: return now.account.time / DAY_HOURS;
            case 5: return now.account.time % DAY_HOURS;
            case 6: return Integer.bitCount(now.account.presses);
            case 7: return sawTogether();
            case 8: return now.account.keptCount();
            case 9: return toldCount;
            case 10: return pastActs;
            default: return NONE;
        }
    }

    public int letter(int kind, int which, int k) {
        if (kind < KIND || kind > PERSON || !isOne(kind, which) || k < 0 || k > 5) {
            return NONE;
        }
        return (now.house.names[kind][which] >> (5 * k)) & 31;
    }

    public int film(int film, int what) {
        if (!isOne(FILM, film)) {
            return NONE;
        }
        if (what == 0) {
            return now.house.parts[film];
        }
        return what >= 10 && isOne(KIND, what - 10) ? now.house.weights[film][what - 10] : NONE;
    }

    public int person(int person, int what) {
        if (!isOne(PERSON, person)) {
            return NONE;
        }
        switch (what) {
            case 0: return now.house.firstHour[person];
            case 1: return now.house.lastHour[person];
            case 2: return (now.account.presses >> person) & 1;
            case 3: return now.account.saw[person];
            default: return what >= 10 && isOne(KIND, what - 10) ? now.house.likes[person][what - 10] : NONE;
        }
    }

    public int taste(int person, int kind) {
        if (person != NONE && !isOne(PERSON, person) || !isOne(KIND, kind)) {
            return NONE;
        }
        return now.account.taste[(person + 1) * KINDS + kind];
    }

    public int seen(int person, int film) {
        if (person != NONE && !isOne(PERSON, person) || !isOne(FILM, film)) {
            return NONE;
        }
        return now.account.seen[(person + 1) * FILMS + film];
    }

    public int suggest(int person) {
        return isOne(PERSON, person) ? now.suggested(person) : NONE;
    }

    public int worth(int person, int film) {
        return isOne(PERSON, person) && isOne(FILM, film) ? now.house.worthOf(person, film) : NONE;
    }

    public int kept(int k, int what) {
        if (k < 0 || k >= now.account.keptCount()) {
            return NONE;
        }
        int row = now.account.keptRow(k);
        int time = row / (16 * FILMS);
        switch (what) {
            case 0: return time / DAY_HOURS;
            case 1: return time % DAY_HOURS;
            case 2: return row / FILMS % 16;
            case 3: return row % FILMS;
            default: return NONE;
        }
    }

    // ---- ahead

    public long pleased(int person, int n) {
        if (!isOne(PERSON, person) || !canPass(n, 0, MOST_AHEAD)) {
            return NOTHING;
        }
        lookAhead(now.account.presses, n);
        return ahead.pleased[person];
    }

    public int refused(int person, int n) {
        if (!isOne(PERSON, person) || !canPass(n, 0, MOST_AHEAD)) {
            return NONE;
        }
        lookAhead(now.account.presses, n);
        return ahead.refused[person];
    }

    public long pressing(int person, int n) {
        if (!isOne(PERSON, person) || !canPass(n, 0, MOST_AHEAD)) {
            return NOTHING;
        }
        int bit = 1 << person;
        lookAhead(now.account.presses | bit, n);
        long pleasure = ahead.pleased[person];
        lookAhead(now.account.presses & ~bit, n);
        return pleasure - ahead.pleased[person];
    }

    public int rest(int n) {
        if (!canPass(n, 0, MOST_REST)) {
            return NONE;
        }
        int people = now.house.counts[PERSON];
        int sets = 1 << people;
        for (int set = 0; set < sets; set++) {
            lookAhead(set, n);
            System.arraycopy(ahead.pleased, 0, setPleasures, set * PEOPLE, PEOPLE);
        }
        int best = NONE;
        for (int set = 0; set < sets; set++) {
            boolean fewer = best == NONE || Integer.bitCount(set) < Integer.bitCount(best);
            if (fewer && isAtRest(set, people)) {
                best = set;
            }
        }
        return best;
    }

    public int gone(int person, int kind) {
        if (!isOne(PERSON, person) || !isOne(KIND, kind)) {
            return NONE;
        }
        lookAhead(now.account.presses, 0);
        int at = ahead.account.profileOf(person) * KINDS + kind;
        int most = Math.min(MOST_AHEAD, LAST_TIME - now.account.time);
        for (int n = 0; n <= most; n++) {
            if (ahead.account.taste[at] == 0) {
                return n;
            }
            if (n < most) {
                ahead.passHour();
            }
        }
        return NONE;
    }

    public int sow(int person, int n) {
        if (!isOne(PERSON, person) || !canPass(n, 0, MOST_AHEAD)) {
            return NONE;
        }
        int best = NONE;
        int mostPleasure = 0;
        for (int film = 0; film < now.house.counts[FILM]; film++) {
            if (!now.hasPartFor(person, film)) {
                continue;
            }
            lookAhead(now.account.presses, 0);
            ahead.watch(person, film);
            ahead.pleased[person] = 0;
            for (int hour = 0; hour < n; hour++) {
                ahead.passHour();
            }
            if (best == NONE || ahead.pleased[person] > mostPleasure) {
                best = film;
                mostPleasure = ahead.pleased[person];
            }
        }
        return best;
    }

    // ---- who, sofas, shares

    public int who(int person, int film, int hour) {
        if (!isOne(PERSON, person) || !isOne(FILM, film) || hour < 0 || hour >= DAY_HOURS) {
            return NONE;
        }
        long all = 0;
        long his = 0;
        for (int one = 0; one < now.house.counts[PERSON]; one++) {
            if (now.house.isFree(one, hour)) {
                int odds = now.house.worthOf(one, film) + 1;
                all += odds;
                his += one == person ? odds : 0;
            }
        }
        return all == 0 ? NONE : (int) (his * 1000000L / all);
    }

    public int sofa(int people, int rule) {
        if (people < 1 || people >= 1 << now.house.counts[PERSON] || rule < 0 || rule > 2) {
            return NONE;
        }
        if (rule == 2) {
            countVotes(people);
        }
        int best = NONE;
        int most = 0;
        for (int film = 0; film < now.house.counts[FILM]; film++) {
            int value = rule == 2 ? votes[film] : sofaWorth(people, film, rule == 1);
            if (best == NONE || value > most) {
                best = film;
                most = value;
            }
        }
        return best;
    }

    public int share(int person) {
        int all = sawTogether();
        if (!isOne(PERSON, person) || all == 0) {
            return NONE;
        }
        int price = now.house.price;
        int left = price;
        int first = 0;
        for (int one = 0; one < now.house.counts[PERSON]; one++) {
            left -= price * now.account.saw[one] / all;
            if (now.account.saw[one] > now.account.saw[first]) {
                first = one;
            }
        }
        int own = price * now.account.saw[person] / all;
        return person == first ? own + left : own;
    }

    // ---- who pressed

    public int tell() {
        int length = takeTape();
        int rows = length / 3;
        if (rows < 1 || rows > ROWS || rows * 3 != length) {
            return refuse(TEXT_REFUSED);
        }
        for (int at = 0; at < length; at += 3) {
            if (tape[at] >= DAY_HOURS || !isOne(FILM, tape[at + 1]) || tape[at + 2] > 1) {
                return refuse(TEXT_REFUSED);
            }
        }
        System.arraycopy(tape, 0, toldRows, 0, length);
        toldCount = rows;
        return rows;
    }

    public int pressed(int what) {
        int hours = toldHours();
        if (what < 0 || what > 2 || !canPass(hours, 0, DAY_HOURS)) {
            return NONE;
        }
        int sets = 1 << now.house.counts[PERSON];
        int count = 0;
        int inAll = sets - 1;
        int inSome = 0;
        for (int set = 0; set < sets; set++) {
            if (isAsTold(set, hours)) {
                count++;
                inAll &= set;
                inSome |= set;
            }
        }
        if (what == 0) {
            return count;
        }
        return what == 2 ? inSome : count == 0 ? 0 : inAll;
    }

    // ---- acts

    public boolean press(int person, int on) {
        if (!isOne(PERSON, person) || on < 0 || on > 1 || ((now.account.presses >> person) & 1) == on) {
            refuse(PERSON_REFUSED);
            return false;
        }
        rememberAct();
        now.account.presses ^= 1 << person;
        return true;
    }

    public long show(int person, int film) {
        if (!isOne(PERSON, person) || !isOne(FILM, film) || !now.hasPartFor(person, film)) {
            refuse(PERSON_REFUSED);
            return NOTHING;
        }
        rememberAct();
        return now.watch(person, film);
    }

    public int hours(int n) {
        if (!canPass(n, 1, MOST_PASSED)) {
            return refuse(HOURS_REFUSED);
        }
        rememberAct();
        int parts = 0;
        for (int hour = 0; hour < n; hour++) {
            parts += now.passHour();
        }
        return parts;
    }

    public int chance(int n) {
        if (!canPass(n, 1, MOST_PASSED)) {
            return refuse(HOURS_REFUSED);
        }
        rememberAct();
        int strangers = 0;
        for (int hour = 0; hour < n; hour++) {
            if (strangerSees()) {
                strangers++;
            }
            now.passHour();
        }
        return strangers;
    }

    public boolean undo() {
        if (pastActs == 0) {
            refuse(UNDO_REFUSED);
            return false;
        }
        pastActs--;
        now.account.copyFrom(past[(oldestPast + pastActs) % ACTS]);
        return true;
    }

    public boolean seed(int seed) {
        if (seed < 0) {
            refuse(STATE_REFUSED);
            return false;
        }
        drawn = seed;
        return true;
    }

    // ---- questions

    public long ask(int person) {
        int length = takeTape();
        if (!isOne(PERSON, person) || !reader.readQuestion(length)) {
            return NOTHING;
        }
        switch (reader.asked) {
            case W_FIRST: return filmThatHolds(person, true);
            case W_LAST: return filmThatHolds(person, false);
            case W_OFTEN: return totalOf(person);
            case W_TOTAL: return totalOf(person);
            case W_MOST: return extremeOf(person, true);
            default: return extremeOf(person, false);
        }
    }

    // ---- images, refusals

    public int image() {
        Account account = now.account;
        int people = now.house.counts[PERSON];
        imageLength = 0;
        putTwo(account.time / DAY_HOURS);
        putByte(account.time % DAY_HOURS);
        for (int profile = 0; profile <= people; profile++) {
            for (int kind = 0; kind < now.house.counts[KIND]; kind++) {
                putTwo(account.taste[profile * KINDS + kind]);
            }
            for (int film = 0; film < now.house.counts[FILM]; film++) {
                putByte(account.seen[profile * FILMS + film]);
            }
        }
        for (int person = 0; person < people; person++) {
            putByte((account.presses >> person) & 1);
            putTwo(account.saw[person]);
        }
        putByte(checkByte(imageBytes, imageLength));
        return imageLength;
    }

    public int octet(int k) {
        return k < 0 || k >= imageLength ? NONE : imageBytes[k];
    }

    public boolean on() {
        int length = takeTape();
        // The course ahead is free between calls: it takes the image, until all of it is known to be right.
        if (length != lengthOfImage() || checkByte(tape, length - 1) != tapeByte(length - 1)
                || !readProfiles(ahead.account) || !readPeople(ahead.account, length - 1)) {
            refuse(STATE_REFUSED);
            return false;
        }
        now.account.copyFrom(ahead.account);
        forgetActs();
        return true;
    }

    public int status(int what) {
        return what < 0 || what >= refusals.length ? NONE : refusals[what];
    }

    // ---- what the calls share

    private int refuse(int what) {
        refusals[what]++;
        return NONE;
    }

    private void feedNumber(int number) {
        for (int shift = 24; shift >= 0; shift -= 8) {
            if (fed < TAPE) {
                tape[fed] = (number >> shift) & 255;
                fed++;
            }
        }
    }

    private int takeTape() {
        int length = fed;
        fed = 0;
        return length;
    }

    private boolean isOne(int sort, int which) {
        return which >= 0 && which < now.house.counts[sort];
    }

    private boolean canPass(int n, int least, int most) {
        return n >= least && n <= most && n <= LAST_TIME - now.account.time;
    }

    private int sawTogether() {
        int all = 0;
        for (int person = 0; person < now.house.counts[PERSON]; person++) {
            all += now.account.saw[person];
        }
        return all;
    }

    private void rememberAct() {
        if (pastActs == ACTS) {
            oldestPast = (oldestPast + 1) % ACTS;
            pastActs--;
        }
        past[(oldestPast + pastActs) % ACTS].copyFrom(now.account);
        pastActs++;
    }

    private void forgetActs() {
        pastActs = 0;
    }

    /** Leaves the course ahead where n hours have passed, with these people pressing. */
    private void lookAhead(int presses, int n) {
        ahead.begin(now, presses);
        for (int hour = 0; hour < n; hour++) {
            ahead.passHour();
        }
    }

    private boolean isAtRest(int set, int people) {
        for (int person = 0; person < people; person++) {
            int other = set ^ (1 << person);
            if (setPleasures[other * PEOPLE + person] > setPleasures[set * PEOPLE + person]) {
                return false;
            }
        }
        return true;
    }

    private int sofaWorth(int people, int film, boolean byLeast) {
        int together = 0;
        int least = NONE;
        for (int person = 0; person < now.house.counts[PERSON]; person++) {
            if (((people >> person) & 1) == 1) {
                int worth = now.house.worthOf(person, film);
                together += worth;
                least = least == NONE ? worth : Math.min(least, worth);
            }
        }
        return byLeast ? least : together;
    }

    private void countVotes(int people) {
        for (int film = 0; film < FILMS; film++) {
            votes[film] = 0;
        }
        for (int person = 0; person < now.house.counts[PERSON]; person++) {
            int first = ((people >> person) & 1) == 1 ? now.house.filmOfMostWorth(person) : NONE;
            if (first != NONE) {
                votes[first]++;
            }
        }
    }

    /** How many hours ahead all rows that are told have passed. */
    private int toldHours() {
        int hours = 0;
        for (int row = 0; row < toldCount; row++) {
            hours = Math.max(hours, toldRows[3 * row] + 1);
        }
        return hours;
    }

    private boolean isAsTold(int set, int hours) {
        ahead.begin(now, set);
        for (int hour = 0; hour < hours; hour++) {
            ahead.passHour();
            for (int row = 0; row < toldCount; row++) {
                boolean his = toldRows[3 * row] == hour;
                if (his && ((ahead.filmsSeen >> toldRows[3 * row + 1]) & 1) != toldRows[3 * row + 2]) {
                    return false;
                }
            }
        }
        return true;
    }

    private boolean strangerSees() {
        int films = now.house.counts[FILM];
        if (draw(100) >= now.house.strange || films == 0) {
            return false;
        }
        int film = draw(films);
        if (now.account.seen[film] >= now.house.parts[film]) {
            return false;
        }
        now.seePart(0, film, STRANGER);
        return true;
    }

    /** A draw of 1 or more. */
    private int draw(int m) {
        drawn = (int) ((1103515245L * drawn + 12345L) & 2147483647L);
        return m < 1 ? 0 : drawn / 64 % m;
    }

    private long filmThatHolds(int person, boolean first) {
        int films = now.house.counts[FILM];
        for (int n = 0; n < films; n++) {
            int film = first ? n : films - 1 - n;
            if (now.valueFor(reader.question, person, film) != 0) {
                return film;
            }
        }
        return NONE;
    }

    /** Often is a total, too: a test that holds is 1. */
    private long totalOf(int person) {
        long total = 0;
        for (int film = 0; film < now.house.counts[FILM]; film++) {
            total += now.valueFor(reader.question, person, film);
        }
        return total;
    }

    private long extremeOf(int person, boolean greatest) {
        int best = 0;
        for (int film = 0; film < now.house.counts[FILM]; film++) {
            int value = now.valueFor(reader.question, person, film);
            if (film == 0 || (greatest ? value > best : value < best)) {
                best = value;
            }
        }
        return best;
    }

    private void putTwo(int number) {
        putByte(number >> 8);
        putByte(number & 255);
    }

    private void putByte(int number) {
        if (imageLength < IMAGE) {
            imageBytes[imageLength] = number;
            imageLength++;
        }
    }

    private int checkByte(int[] bytes, int length) {
        int check = 53;
        for (int at = 0; at < length && at < bytes.length; at++) {
            check = (3 * check + bytes[at]) % 251;
        }
        return check;
    }

    private int lengthOfImage() {
        int people = now.house.counts[PERSON];
        int profile = 2 * now.house.counts[KIND] + now.house.counts[FILM];
        return 4 + (people + 1) * profile + 3 * people;
    }

    private int tapeByte(int at) {
        return at >= 0 && at < TAPE ? tape[at] : 0;
    }

    private int tapeTwo(int at) {
        return tapeByte(at) * 256 + tapeByte(at + 1);
    }

    /** Reads an image's hour and profiles from a tape of the right length; whether they can be. */
    private boolean readProfiles(Account into) {
        into.clear();
        int day = tapeTwo(0);
        int hour = tapeByte(2);
        boolean can = day <= LAST_DAY && hour < DAY_HOURS;
        into.time = can ? day * DAY_HOURS + hour : 0;
        int at = 3;
        for (int profile = 0; profile <= now.house.counts[PERSON]; profile++) {
            for (int kind = 0; kind < now.house.counts[KIND]; kind++) {
                into.taste[profile * KINDS + kind] = tapeTwo(at);
                can = can && tapeTwo(at) <= MOST_TASTE;
                at += 2;
            }
            for (int film = 0; film < now.house.counts[FILM]; film++) {
                into.seen[profile * FILMS + film] = tapeByte(at);
                can = can && tapeByte(at) <= now.house.parts[film];
                at++;
            }
        }
        return can;
    }

    /** Reads an image's people, whose bytes end where they are told to; whether they can be. */
    private boolean readPeople(Account into, int end) {
        int people = now.house.counts[PERSON];
        boolean can = true;
        for (int person = 0; person < people; person++) {
            int at = end - 3 * (people - person);
            can = can && tapeByte(at) <= 1 && tapeTwo(at + 1) <= MOST_SAW;
            into.presses |= tapeByte(at) << person;
            into.saw[person] = tapeTwo(at + 1);
        }
        return can;
    }

    /** What the text of a house tells. */
    private static final class House {
        final int[] counts = new int[3];
        final int[][] names = new int[3][FILMS];
        final int[] parts = new int[FILMS];
        final int[][] weights = new int[FILMS][KINDS];
        final int[] firstHour = new int[PEOPLE];
        final int[] lastHour = new int[PEOPLE];
        final int[][] likes = new int[PEOPLE][KINDS];
        int presses = 0;
        int screens = 5;
        int price = 0;
        int bother = 0;
        int strange = 0;
        // Where the steps of each formula begin; NONE without it.
        int learns = NONE;
        int fades = NONE;
        int may = NONE;
        final int[] steps = new int[TAPE];

        void clear() {
            for (int sort = KIND; sort <= PERSON; sort++) {
                counts[sort] = 0;
            }
            for (int kind = 0; kind < KINDS; kind++) {
                for (int film = 0; film < FILMS; film++) {
                    weights[film][kind] = 0;
                }
                for (int person = 0; person < PEOPLE; person++) {
                    likes[person][kind] = 0;
                }
            }
            presses = 0;
            screens = 5;
            price = 0;
            bother = 0;
            strange = 0;
            learns = NONE;
            fades = NONE;
            may = NONE;
        }

        int find(int sort, int name) {
            for (int which = 0; which < counts[sort]; which++) {
                if (names[sort][which] == name) {
                    return which;
                }
            }
            return NONE;
        }

        boolean isFree(int person, int hour) {
            return hour >= firstHour[person] && hour <= lastHour[person];
        }

        int worthOf(int person, int film) {
            int worth = 0;
            for (int kind = 0; kind < counts[KIND]; kind++) {
                worth += weights[film][kind] * likes[person][kind];
            }
            return worth;
        }

        int filmOfMostWorth(int person) {
            int best = NONE;
            int most = 0;
            for (int film = 0; film < counts[FILM]; film++) {
                int worth = worthOf(person, film);
                if (best == NONE || worth > most) {
                    best = film;
                    most = worth;
                }
            }
            return best;
        }
    }

    /** How all stands at one time: all that an act changes and undo() brings back. */
    private static final class Account {
        // Hours since day 0, hour 0.
        int time = 0;
        int presses = 0;
        // Of each profile (the account's, then the people's) in turn.
        final int[] taste = new int[PROFILES * KINDS];
        final int[] seen = new int[PROFILES * FILMS];
        final int[] saw = new int[PEOPLE];
        // The last rows in a ring; how many there have been in all.
        private final int[] kept = new int[KEPT];
        private int keptEver = 0;

        void clear() {
            time = 0;
            presses = 0;
            for (int at = 0; at < taste.length; at++) {
                taste[at] = 0;
            }
            for (int at = 0; at < seen.length; at++) {
                seen[at] = 0;
            }
            for (int person = 0; person < PEOPLE; person++) {
                saw[person] = 0;
            }
            keptEver = 0;
        }

        void copyFrom(Account other) {
            time = other.time;
            presses = other.presses;
            System.arraycopy(other.taste, 0, taste, 0, taste.length);
            System.arraycopy(other.seen, 0, seen, 0, seen.length);
            System.arraycopy(other.saw, 0, saw, 0, PEOPLE);
            System.arraycopy(other.kept, 0, kept, 0, KEPT);
            keptEver = other.keptEver;
        }

        /** Which profile a person goes by. */
        int profileOf(int person) {
            return ((presses >> person) & 1) == 1 ? person + 1 : 0;
        }

        int keptCount() {
            return Math.min(keptEver, KEPT);
        }

        /** Row k from the oldest on, of those that there are: (time, person, film) in one number. */
        int keptRow(int k) {
            return kept[(keptEver - keptCount() + k) % KEPT];
        }

        void keep(int person, int film) {
            kept[keptEver % KEPT] = (time * 16 + person) * FILMS + film;
            keptEver++;
        }
    }

    /** An account in its house, and how its hours go. */
    private static final class Course {
        House house;
        final Account account = new Account();
        // Since begin().
        final int[] pleased = new int[PEOPLE];
        final int[] refused = new int[PEOPLE];
        // Bits: the films of which any of the people saw a part in the latest hour.
        int filmsSeen = 0;
        private final Machine machine = new Machine();

        Course(House house) {
            this.house = house;
        }

        void begin(Course from, int presses) {
            house = from.house;
            account.copyFrom(from.account);
            account.presses = presses;
            for (int person = 0; person < PEOPLE; person++) {
                pleased[person] = 0;
                refused[person] = 0;
            }
        }

        /** How many parts the people saw in it. */
        int passHour() {
            int parts = 0;
            filmsSeen = 0;
            int hour = account.time % DAY_HOURS;
            for (int person = 0; person < house.counts[PERSON]; person++) {
                int film = house.isFree(person, hour) ? suggested(person) : NONE;
                if (film != NONE && parts >= house.screens) {
                    refused[person]++;
                } else if (film != NONE) {
                    watch(person, film);
                    filmsSeen |= 1 << film;
                    parts++;
                }
            }
            if (house.fades != NONE) {
                fadeAll(hour);
            }
            account.time++;
            return parts;
        }

        int suggested(int person) {
            int profile = account.profileOf(person);
            int best = NONE;
            int most = 0;
            for (int film = 0; film < house.counts[FILM]; film++) {
                if (account.seen[profile * FILMS + film] < house.parts[film]) {
                    int score = scoreOf(profile, film);
                    // The test is dear: it is asked only of a film that would be the best so far.
                    if (score > most && mayBe(profile, film, score)) {
                        best = film;
                        most = score;
                    }
                }
            }
            return best;
        }

        boolean hasPartFor(int person, int film) {
            return account.seen[account.profileOf(person) * FILMS + film] < house.parts[film];
        }

        /** A person sees a part of a film that has one for him: by how much he is pleased. */
        int watch(int person, int film) {
            int profile = account.profileOf(person);
            seePart(profile, film, person);
            account.saw[person] = Math.min(account.saw[person] + 1, MOST_SAW);
            int pleasure = house.worthOf(person, film) - (profile == 0 ? 0 : house.bother);
            pleased[person] += pleasure;
            return pleasure;
        }

        void seePart(int profile, int film, int viewer) {
            account.seen[profile * FILMS + film]++;
            for (int kind = 0; kind < house.counts[KIND]; kind++) {
                int growth = house.weights[film][kind];
                if (growth > 0) {
                    int at = profile * KINDS + kind;
                    if (house.learns != NONE) {
                        machine.facts[W_HOUR] = account.time % DAY_HOURS;
                        machine.facts[W_TASTE] = account.taste[at];
                        machine.facts[W_WEIGHT] = growth;
                        // Held for itself: what is below 0 is nothing, it takes nothing from the taste.
                        growth = heldTaste(machine.value(house.steps, house.learns));
                    }
                    account.taste[at] = heldTaste(account.taste[at] + growth);
                }
            }
            account.keep(viewer, film);
        }

        /** The value of a question's steps for a film, by the profile a person goes by. */
        int valueFor(int[] steps, int person, int film) {
            int profile = account.profileOf(person);
            setFilmFacts(profile, film, scoreOf(profile, film));
            machine.facts[W_WORTH] = house.worthOf(person, film);
            machine.facts[W_NUMBER] = film;
            for (int kind = 0; kind < KINDS; kind++) {
                machine.weights[kind] = house.weights[film][kind];
            }
            return machine.value(steps, 0);
        }

        private int scoreOf(int profile, int film) {
            int score = 1;
            for (int kind = 0; kind < house.counts[KIND]; kind++) {
                score += house.weights[film][kind] * account.taste[profile * KINDS + kind];
            }
            return score;
        }

        private void setFilmFacts(int profile, int film, int score) {
            machine.facts[W_HOUR] = account.time % DAY_HOURS;
            machine.facts[W_PARTS] = house.parts[film];
            machine.facts[W_SEEN] = account.seen[profile * FILMS + film];
            machine.facts[W_SCORE] = score;
        }

        private boolean mayBe(int profile, int film, int score) {
            if (house.may == NONE) {
                return true;
            }
            setFilmFacts(profile, film, score);
            return machine.value(house.steps, house.may) != 0;
        }

        private void fadeAll(int hour) {
            machine.facts[W_HOUR] = hour;
            for (int profile = 0; profile <= house.counts[PERSON]; profile++) {
                for (int kind = 0; kind < house.counts[KIND]; kind++) {
                    int at = profile * KINDS + kind;
                    machine.facts[W_TASTE] = account.taste[at];
                    account.taste[at] = heldTaste(machine.value(house.steps, house.fades));
                }
            }
        }

        private int heldTaste(int taste) {
            return Math.max(0, Math.min(MOST_TASTE, taste));
        }
    }

    /** Reckons the steps of a formula on a stack, by facts that are put in ahead. */
    private static final class Machine {
        // Six open brackets with what waits in and around them stay far below this.
        private final int[] stack = new int[64];
        // By the number of the fact's word.
        final int[] facts = new int[OWN_WORDS];
        // Of the film that is asked about.
        final int[] weights = new int[KINDS];

        int value(int[] steps, int from) {
            int top = 0;
            for (int at = Math.max(from, 0); at < steps.length && steps[at] != DO_END; at++) {
                int step = steps[at];
                if (step < DO_END) {
                    if (top < stack.length) {
                        stack[top] = given(step);
                        top++;
                    }
                } else if (step == DO_NOT || step == DO_WEIGHT) {
                    if (top > 0) {
                        stack[top - 1] = step == DO_NOT ? 1 - stack[top - 1] : weightOf(stack[top - 1]);
                    }
                } else if (top > 1) {
                    top--;
                    stack[top - 1] = joined(step, stack[top - 1], stack[top]);
                }
            }
            return stack[0];
        }

        private int given(int step) {
            int word = step - FACT;
            return word >= 0 && word < OWN_WORDS ? facts[word] : step;
        }

        private int weightOf(int kind) {
            return kind >= 0 && kind < KINDS ? weights[kind] : 0;
        }

        private int joined(int step, long left, long right) {
            long value;
            switch (step) {
                case DO_ADD: value = left + right; break;
                case DO_TAKE: value = left - right; break;
                case DO_TIMES: value = left * right; break;
                case DO_BY: value = right == 0 ? 0 : Math.floorDiv(left, right); break;
                case DO_MIN: value = Math.min(left, right); break;
                case DO_MAX: value = Math.max(left, right); break;
                case DO_LESS: value = left < right ? 1 : 0; break;
                case DO_MORE: value = left > right ? 1 : 0; break;
                case DO_SAME: value = left == right ? 1 : 0; break;
                case DO_AND: value = left & right; break;
                case DO_OR: value = left | right; break;
                default: value = 0;
            }
            return (int) Math.max(-HELD, Math.min(HELD, value));
        }
    }

    /**
     * Reads a house or a question, one token ahead.
     * Behind a fault no token is read any more and none fits, so that all that is open ends by itself.
     */
    private static final class Reader {
        private static final int END = 0;
        private static final int WORD = 1;
        private static final int NUMBER = 2;
        private static final int SIGN = 3;
        private static final int UNFIT = 4;

        private static final int OPEN = 6;

        int fault = 0;
        int place = NONE;
        // The house that is read; between calls a spare one.
        House house = new House();
        // The latest question: its first word, its steps.
        int asked = NONE;
        final int[] question = new int[TAPE];

        // The tape itself, of which a text is the beginning.
        final int[] text = new int[TAPE];
        private int length = 0;
        private final long[] words = new long[ALL_WORDS];
        // The token: what it is, from where to where; a word's letters, and its number among all words.
        private int token = END;
        private int from = 0;
        private int to = 0;
        private long letters = 0;
        private int word = NONE;
        // The word to which the formula belongs that is read, where its steps go, what is open in it.
        private int formula = NONE;
        private int[] steps = question;
        private int stepCount = 0;
        private int open = 0;

        Reader() {
            int count = 0;
            int at = 0;
            for (int k = 0; k < WORDS.length(); k++) {
                char letter = WORDS.charAt(k);
                if (letter != ' ') {
                    words[count] |= (long) (letter - 'a' + 1) << (5 * at);
                    at++;
                } else if (count < ALL_WORDS - 1) {
                    count++;
                    at = 0;
                }
            }
        }

        /** How many statements there are; NONE with a fault. */
        int readHouse(int textLength) {
            house.clear();
            begin(textLength, house.steps);
            int statements = 0;
            while (token != END && fault == 0 && statements <= STATEMENTS) {
                if (statements == STATEMENTS) {
                    fail(5, from);
                } else {
                    readStatement();
                    takeSign(';');
                }
                statements++;
            }
            return fault == 0 ? statements : NONE;
        }

        /** Whether it has no fault. */
        boolean readQuestion(int textLength) {
            begin(textLength, question);
            asked = token == WORD ? word : NONE;
            if (asked < W_FIRST) {
                fail(1, from);
            }
            beginFormula(asked, NONE);
            if (asked <= W_OFTEN) {
                readTest();
            } else {
                readSum();
            }
            put(DO_END);
            if (token != END) {
                fail(1, from);
            }
            return fault == 0;
        }

        private void begin(int textLength, int[] into) {
            fault = 0;
            place = NONE;
            length = Math.min(textLength, text.length);
            steps = into;
            stepCount = 0;
            token = END;
            to = 0;
            next();
        }

        private void fail(int what, int where) {
            if (fault == 0) {
                fault = what;
                place = where;
            }
            token = UNFIT;
        }

        // ---- tokens

        /** Behind a word or a number another one needs a blank: without one it does not fit. */
        private void next() {
            if (fault != 0) {
                return;
            }
            int behind = token == WORD || token == NUMBER ? to : NONE;
            from = to;
            while (from < length && (text[from] == 10 || text[from] == 32)) {
                from++;
            }
            to = from;
            int first = from < length ? text[from] : 0;
            if (from >= length) {
                token = END;
            } else if (first >= 'a' && first <= 'z') {
                token = WORD;
                while (to < length && text[to] >= 'a' && text[to] <= 'z') {
                    to++;
                }
                knowWord();
            } else if (first >= '0' && first <= '9') {
                token = NUMBER;
                while (to < length && text[to] >= '0' && text[to] <= '9') {
                    to++;
                }
            } else {
                token = SIGN;
                to++;
            }
            if (behind == from && (token == WORD || token == NUMBER)) {
                token = UNFIT;
            }
        }

        /** Longer words than 7 letters are neither names nor words of ours. */
        private void knowWord() {
            letters = 0;
            word = NONE;
            for (int at = from; at < to && at < from + 7; at++) {
                letters |= (long) (text[at] - 'a' + 1) << (5 * (at - from));
            }
            for (int k = 0; k < ALL_WORDS && to - from <= 7; k++) {
                if (words[k] == letters) {
                    word = k;
                }
            }
        }

        private boolean isWord(int number) {
            return token == WORD && word == number;
        }

        private boolean isSign(char sign) {
            return token == SIGN && from < length && text[from] == sign;
        }

        private void takeWord(int number) {
            if (isWord(number)) {
                next();
            } else {
                fail(1, from);
            }
        }

        private void takeSign(char sign) {
            if (isSign(sign)) {
                next();
            } else {
                fail(1, from);
            }
        }

        private int takeNumber(int least, int most) {
            if (token != NUMBER) {
                fail(1, from);
                return least;
            }
            if (to - from > 4) {
                fail(1, from + 4);
                return least;
            }
            int value = 0;
            for (int at = from; at < to; at++) {
                value = value * 10 + text[at] - '0';
            }
            if (value < least || value > most) {
                fail(2, from);
                return least;
            }
            next();
            return value;
        }

        /** A name's letters, five bits each; it stays the token. 0 with a fault. */
        private int nameHere() {
            if (token != WORD || word >= 0 && word < OWN_WORDS) {
                fail(1, from);
                return 0;
            }
            if (to - from > 6) {
                fail(1, from + 6);
                return 0;
            }
            return (int) letters;
        }

        // ---- statements

        private void readStatement() {
            int which = token == WORD ? word : NONE;
            switch (which) {
                case W_KIND:
                    takeNewName(KIND, KINDS);
                    break;
                case W_FILM:
                    readFilm();
                    break;
                case W_PERSON:
                    readPerson();
                    break;
                case W_LIKES:
                    readLikes();
                    break;
                case W_PRESS:
                    readPress();
                    break;
                case W_LEARNS:
                    house.learns = beginFormula(which, house.learns);
                    readSum();
                    put(DO_END);
                    break;
                case W_FADES:
                    house.fades = beginFormula(which, house.fades);
                    readSum();
                    put(DO_END);
                    break;
                case W_MAY:
                    house.may = beginFormula(which, house.may);
                    readTest();
                    put(DO_END);
                    break;
                case W_SCREENS:
                    next();
                    house.screens = takeNumber(1, 5);
                    break;
                case W_PRICE:
                    next();
                    house.price = takeNumber(0, 999);
                    break;
                case W_BOTHER:
                    next();
                    house.bother = takeNumber(0, 99);
                    break;
                case W_STRANGE:
                    next();
                    house.strange = takeNumber(0, 100);
                    break;
                default:
                    fail(1, from);
            }
        }

        /** Takes a statement's first word and the name that it gives: its number, or NONE with a fault. */
        private int takeNewName(int sort, int most) {
            int number = house.counts[sort];
            if (number >= most) {
                fail(5, from);
            }
            next();
            int name = nameHere();
            for (int other = KIND; other <= PERSON; other++) {
                if (house.find(other, name) != NONE) {
                    fail(3, from);
                }
            }
            next();
            if (fault != 0) {
                return NONE;
            }
            house.names[sort][number] = name;
            house.counts[sort]++;
            return number;
        }

        /** Takes a name of that sort: its number, or NONE with a fault. */
        private int takeKnownName(int sort) {
            int number = house.find(sort, nameHere());
            if (number == NONE) {
                fail(3, from);
            }
            next();
            return fault == 0 ? number : NONE;
        }

        private void readFilm() {
            int film = takeNewName(FILM, FILMS);
            takeWord(W_PARTS);
            int parts = takeNumber(1, 9);
            takeWord(W_IS);
            if (film == NONE) {
                return;
            }
            house.parts[film] = parts;
            for (int row = 0; row <= length && (row == 0 || token == WORD); row++) {
                int where = from;
                int kind = takeKnownName(KIND);
                if (kind != NONE && house.weights[film][kind] > 0) {
                    fail(3, where);
                }
                int weight = takeNumber(1, 9);
                if (kind != NONE) {
                    house.weights[film][kind] = weight;
                }
            }
        }

        private void readPerson() {
            int person = takeNewName(PERSON, PEOPLE);
            takeWord(W_AT);
            int first = takeNumber(0, DAY_HOURS - 1);
            takeWord(W_TO);
            int last = takeNumber(first, DAY_HOURS - 1);
            if (person != NONE) {
                house.firstHour[person] = first;
                house.lastHour[person] = last;
            }
        }

        private void readLikes() {
            next();
            int person = takeKnownName(PERSON);
            int kind = takeKnownName(KIND);
            int much = takeNumber(0, 9);
            if (person != NONE && kind != NONE) {
                house.likes[person][kind] = much;
            }
        }

        private void readPress() {
            next();
            int where = from;
            int person = takeKnownName(PERSON);
            if (person != NONE && ((house.presses >> person) & 1) == 1) {
                fail(3, where);
            }
            if (person != NONE) {
                house.presses |= 1 << person;
            }
        }

        /** Takes the word that owns a formula and may stand once: where the formula's steps begin. */
        private int beginFormula(int owner, int before) {
            if (before != NONE) {
                fail(5, from);
            }
            formula = owner;
            open = 0;
            next();
            return stepCount;
        }

        // ---- formulas

        private void put(int step) {
            if (stepCount < steps.length) {
                steps[stepCount] = step;
                stepCount++;
            }
        }

        /** Takes what opens one more, if it may: this is what bounds how deep the reading goes. */
        private boolean opens() {
            if (open >= OPEN) {
                fail(4, from);
            }
            if (fault != 0) {
                return false;
            }
            open++;
            next();
            return true;
        }

        private void readTest() {
            readBoth();
            for (int more = 0; more <= length && isWord(W_OR); more++) {
                next();
                readBoth();
                put(DO_OR);
            }
        }

        private void readBoth() {
            readFact();
            for (int more = 0; more <= length && isWord(W_AND); more++) {
                next();
                readFact();
                put(DO_AND);
            }
        }

        private void readFact() {
            if (isWord(W_NOT)) {
                if (opens()) {
                    readFact();
                    open--;
                    put(DO_NOT);
                }
            } else if (isSign('[')) {
                if (opens()) {
                    readTest();
                    takeSign(']');
                    open--;
                }
            } else if (isWord(W_ALL)) {
                next();
                put(1);
            } else {
                readSum();
                int step = isSign('<') ? DO_LESS : isSign('>') ? DO_MORE : DO_SAME;
                if (step == DO_SAME && !isSign('=')) {
                    fail(1, from);
                }
                next();
                readSum();
                put(step);
            }
        }

        private void readSum() {
            readProduct();
            for (int more = 0; more <= length && (isSign('+') || isSign('-')); more++) {
                int step = isSign('+') ? DO_ADD : DO_TAKE;
                next();
                readProduct();
                put(step);
            }
        }

        private void readProduct() {
            readPart();
            for (int more = 0; more <= length && (isSign('*') || isSign('/')); more++) {
                int step = isSign('*') ? DO_TIMES : DO_BY;
                next();
                readPart();
                put(step);
            }
        }

        private void readPart() {
            if (token == NUMBER) {
                put(takeNumber(0, 9999));
            } else if (isSign('(')) {
                if (opens()) {
                    readSum();
                    takeSign(')');
                    open--;
                }
            } else if (isWord(W_MIN) || isWord(W_MAX)) {
                readLesserOrGreater(isWord(W_MIN) ? DO_MIN : DO_MAX);
            } else if (isWord(W_WEIGHT) && formula >= W_FIRST) {
                if (opens()) {
                    readPart();
                    open--;
                    put(DO_WEIGHT);
                }
            } else if (token == WORD && isFactHere()) {
                put(FACT + word);
                next();
            } else {
                fail(1, from);
            }
        }

        private void readLesserOrGreater(int step) {
            next();
            if (!isSign('(')) {
                fail(1, from);
            }
            if (opens()) {
                readSum();
                takeSign(',');
                readSum();
                takeSign(')');
                open--;
                put(step);
            }
        }

        private boolean isFactHere() {
            switch (word) {
                case W_HOUR: return true;
                case W_TASTE: return formula == W_LEARNS || formula == W_FADES;
                case W_WEIGHT: return formula == W_LEARNS;
                case W_PARTS:
                case W_SEEN:
                case W_SCORE: return formula == W_MAY || formula >= W_FIRST;
                case W_WORTH:
                case W_NUMBER: return formula >= W_FIRST;
                default: return false;
            }
        }
    }
}
