/** Terms II, promises 1 to 3, 6 to 14, 26 to 31: each sentence that names a boundary, on both sides of it. */
public final class AccountBoundsTest {
    private static final Due due = new Due("AccountBoundsTest");
    private static final int LEAST = Integer.MIN_VALUE;
    private static final int MOST = Integer.MAX_VALUE;
    private static final long NOTHING = FourOnOne.NOTHING;
    private static final String ONE = "kind k;film f parts 9 is k 1;person p at 0 to 23;";

    /** Six kinds, eight films, five people: as many as there can be. */
    static final String FULL = "kind a;kind b;kind c;kind d;kind e;kind f;film g parts 9 is a 9 b 9 c 9 d 9 e 9 f 9;"
        + "film h parts 9 is a 9;film i parts 9 is b 9;film j parts 9 is c 9;film k parts 9 is d 9;film l parts 9 is e 9;"
        + "film m parts 9 is f 9;film n parts 1 is f 1;person p at 0 to 23;person q at 0 to 23;person r at 0 to 23;"
        + "person s at 0 to 23;person t at 0 to 23;likes t a 9;likes t b 9;likes t c 9;likes t d 9;likes t e 9;likes t f 9;"
        + "press t;price 999;";

    public static void main(String[] args) {
        newObject();
        tape();
        has();
        letters();
        films();
        people();
        profiles();
        full();
        suggested();
        free();
        screens();
        learns();
        fades();
        pleased();
        hourOfTheDay();
        lastHour();
        kept();
        press();
        show();
        hours();
        chance();
        draws();
        strangers();
        undo();
        undoesAll();
        seeds();
        status();
        due.end();
    }

    private static void none(String call, long got) {
        due.is(call, got, -1);
    }

    private static void newObject() {
        due.by("FourOnOne(): No house, nobody");
        FourOnOne x = new FourOnOne();
        for (int what = 0; what <= 10; what++) {
            due.is("has " + what, x.has(what), what == 3 ? 5 : 0);
        }
        for (int one = -1; one <= 1; one++) {
            none("letter " + one, x.letter(0, one, 0) & x.letter(1, one, 0) & x.letter(2, one, 0));
            none("film " + one, x.film(one, 0));
            none("person " + one, x.person(one, 0));
            none("taste " + one, x.taste(one, 0));
            none("seen " + one, x.seen(one, 0));
            none("suggest " + one, x.suggest(one));
            none("worth " + one, x.worth(one, 0));
            none("kept " + one, x.kept(one, 0));
            due.is("pleased " + one, x.pleased(one, 0), NOTHING);
            none("refused " + one, x.refused(one, 0));
            due.is("pressing " + one, x.pressing(one, 0), NOTHING);
            none("gone " + one, x.gone(one, 0));
            none("sow " + one, x.sow(one, 0));
            none("who " + one, x.who(one, 0, 0));
            none("sofa " + one, x.sofa(one, 0));
            none("share " + one, x.share(one));
            due.is("press " + one, x.press(one, 1), false);
            due.is("show " + one, x.show(one, 0), NOTHING);
            due.is("ask " + one, x.ask(one), NOTHING);
            none("octet " + one, x.octet(one));
        }
        due.is("rest", x.rest(48), 0);
        due.is("pressed 0", x.pressed(0), 1);
        due.is("pressed 1", x.pressed(1), 0);
        due.is("pressed 2", x.pressed(2), 0);
        due.is("undo", x.undo(), false);
        due.is("100 hours", x.hours(100), 0);
        due.is("day 4, hour 4", x.has(4) * 100 + x.has(5), 404);
    }

    private static int feed(FourOnOne x) {
        return x.feed(0x20202020, 0x20202020, 0x20202020, 0x20202020, 0x20202020);
    }

    private static void tape() {
        due.by("Twenty bytes come behind those on the tape, of each number the highest first");
        FourOnOne x = new FourOnOne();
        due.is("20", x.feed(0x6b696e64, 0x20616263, 0x6465663b, 0x6b696e64, 0x20676869), 20);
        due.is("40", x.feed(0x6a6b6c3b, 0x20202020, 0x20202020, 0x20202020, 0x2020203b), 40);
        due.is("39", x.end(39), true);
        due.is("two kinds", x.house(), 2);
        for (int k = 0; k < 6; k++) {
            due.is("letter " + k, x.letter(0, 0, k) * 100 + x.letter(0, 1, k), (k + 1) * 100 + k + 7);
        }
        due.by("NONE, refused (0), if there would be more than 1600");
        for (int k = 1; k <= 80; k++) {
            due.is("feed", feed(x), 20 * k);
        }
        due.is("none refused", x.status(0), 0);
        due.is("1620", feed(x), -1);
        due.is("refused", x.status(0), 1);
        due.is("1600 stay", x.end(1600), true);
        due.is("1581", x.end(1581), true);
        due.is("1601", feed(x), -1);
        due.is("refused", x.status(0), 2);
        due.is("1581 stay", x.end(1581), true);
        due.is("no more", x.end(1582), false);
        due.is("1580", x.end(1580), true);
        due.is("1600", feed(x), 1600);
        due.is("all of them blanks", x.house(), 0);
        due.by("The tape has its first n bytes alone: true; false, refused (0), if it has not so many, or n is below 0");
        FourOnOne y = new FourOnOne();
        due.is("0 of none", y.end(0), true);
        due.is("1 of none", y.end(1), false);
        due.is("below", y.end(-1), false);
        due.is("far below", y.end(LEAST), false);
        due.is("far above", y.end(MOST), false);
        due.is("refused", y.status(0), 4);
        Due.feed(y, "kind a;kind b;");
        due.is("15 of 14", y.end(15), false);
        due.is("below 0", y.end(-1), false);
        due.is("14 of 14", y.end(14), true);
        due.is("refused", y.status(0), 6);
        due.is("7 of 14", y.end(7), true);
        due.is("8 of 7", y.end(8), false);
        due.is("feed behind 7", feed(y), 27);
        due.is("one kind", y.house(), 1);
        feed(y);
        due.is("0", y.end(0), true);
        due.is("1 of 0", y.end(1), false);
        due.is("from the first on", feed(y), 20);
    }

    private static void has() {
        due.by("How many there are: .. NONE for others");
        FourOnOne x = Due.housed(FULL);
        int[] first = {6, 8, 5, 5, 0, 0, 1, 0, 0, 0, 0};
        for (int what = 0; what <= 10; what++) {
            due.is("has " + what, x.has(what), first[what]);
        }
        none("11", x.has(11));
        none("-1", x.has(-1));
        none("far below", x.has(LEAST));
        none("far above", x.has(MOST));
        due.by("7 parts seen by all PEOPLE (HOURS in which they saw, together)");
        due.is("one of each", x.hours(1), 5);
        due.is("together", x.has(7), 5);
        x.show(4, 7);
        due.is("shown", x.has(7), 6);
        due.is("no part is left of it", x.show(4, 7), NOTHING);
        due.is("still", x.has(7), 6);
    }

    private static void letters() {
        due.by("Letter k (0 .. 5) of the NAME: 1 .. 26; 0 behind it; NONE when there is none such");
        FourOnOne x = Due.housed("kind a;kind zzzzzz;film az parts 1 is a 1;person abcde at 0 to 1;");
        due.is("a", x.letter(0, 0, 0), 1);
        due.is("z", x.letter(0, 1, 5), 26);
        due.is("the 5th of abcde", x.letter(2, 0, 4), 5);
        due.is("behind a", x.letter(0, 0, 1) + x.letter(0, 0, 5), 0);
        due.is("behind abcde", x.letter(2, 0, 5), 0);
        due.is("behind az", x.letter(1, 0, 2), 0);
        int[][] rows = {{0, 0, 6}, {0, 0, -1}, {0, 1, 6}, {0, 0, LEAST}, {0, 0, MOST}, {0, 2, 0}, {0, -1, 0}, {0, LEAST, 0},
            {0, MOST, 0}, {1, 1, 0}, {1, -1, 0}, {2, 1, 0}, {2, -1, 0}, {3, 0, 0}, {-1, 0, 0}, {LEAST, 0, 0}, {MOST, 0, 0}};
        for (int[] row : rows) {
            none("letter " + row[0] + " " + row[1] + " " + row[2], x.letter(row[0], row[1], row[2]));
        }
    }

    private static void films() {
        due.by("Of a FILM: 0 parts, 10 and k: how much it is of KIND k. NONE when there is none such, or for others");
        FourOnOne x = Due.housed("kind a;kind b;film f parts 9 is b 9;film g parts 1 is a 1;");
        due.is("parts", x.film(0, 0) * 10 + x.film(1, 0), 91);
        due.is("a", x.film(0, 10) * 10 + x.film(1, 10), 1);
        due.is("b", x.film(0, 11) * 10 + x.film(1, 11), 90);
        for (int what : new int[] {-1, 1, 2, 3, 9, 12, 13, 15, 16, LEAST, MOST, LEAST + 10}) {
            none("film 0 " + what, x.film(0, what));
        }
        for (int film : new int[] {-1, 2, 8, LEAST, MOST}) {
            none("film " + film, x.film(film, 0) & x.film(film, 10));
        }
    }

    private static void people() {
        due.by("Of a PERSON: 0 from which HOUR, 1 to which, 2 whether he PRESSES, 3 HOURS, 10 and k. NONE for others");
        FourOnOne x = Due.housed("kind a;kind b;film f parts 9 is b 9;person p at 0 to 0;person q at 23 to 23;likes q b 9;press q;");
        int[][] rows = {{0, 0, 0}, {0, 1, 0}, {0, 2, 0}, {0, 3, 0}, {0, 10, 0}, {0, 11, 0}, {1, 0, 23}, {1, 1, 23}, {1, 2, 1},
            {1, 3, 0}, {1, 10, 0}, {1, 11, 9}};
        for (int[] row : rows) {
            due.is("person " + row[0] + " " + row[1], x.person(row[0], row[1]), row[2]);
        }
        for (int what : new int[] {-1, 4, 5, 9, 12, 15, 16, LEAST, MOST, LEAST + 10}) {
            none("person 1 " + what, x.person(1, what));
        }
        for (int person : new int[] {-1, 2, 5, 9, LEAST, MOST}) {
            none("person " + person, x.person(person, 0) & x.person(person, 2) & x.person(person, 10));
        }
        due.by("3 HOURS in which he saw (9999 at most)");
        FourOnOne y = Due.housed(ONE);
        Due.on(y, Due.checked(0, 0, 0, 0, 0, 0, 0, 0, 0, 0, 9997 / 256, 9997 % 256, 0));
        int[] saw = {9998, 9999, 9999, 9999};
        for (int k = 0; k < saw.length; k++) {
            due.is("one more", y.hours(1), 1);
            due.is("hours", y.person(0, 3), saw[k]);
            due.is("together", y.has(7), saw[k]);
        }
        y.show(0, 0);
        due.is("shown", y.person(0, 3), 9999);
        due.is("parts", y.seen(-1, 0), 5);
        for (int k = 0; k < 4; k++) {
            y.undo();
        }
        due.is("undone", y.person(0, 3), 9998);
    }

    private static void profiles() {
        due.by("TASTE for a KIND in the PROFILE of a PERSON (NONE: the account's); NONE when there are none such");
        FourOnOne x = Due.housed("kind a;kind b;film f parts 9 is b 9;film g parts 2 is a 3;person p at 0 to 0;person q at 0 to 23;press q;");
        x.show(0, 0);
        x.show(1, 1);
        due.is("account's", x.taste(-1, 0) * 10 + x.taste(-1, 1), 9);
        due.is("p's", x.taste(0, 0) + x.taste(0, 1), 0);
        due.is("q's", x.taste(1, 0) * 10 + x.taste(1, 1), 30);
        for (int one : new int[] {-2, 2, 5, LEAST, MOST}) {
            none("taste " + one, x.taste(one, 0));
            none("seen " + one, x.seen(one, 0));
        }
        for (int one : new int[] {-1, 2, 6, 8, LEAST, MOST}) {
            none("of kind " + one, x.taste(0, one) & x.taste(-1, one) & x.taste(1, one));
            none("of film " + one, x.seen(0, one) & x.seen(-1, one) & x.seen(1, one));
        }
        due.by("Parts of a FILM that are SEEN by the PROFILE of a PERSON (NONE: the account's); NONE when there are none such");
        due.is("account's", x.seen(-1, 0) * 10 + x.seen(-1, 1), 10);
        due.is("p's", x.seen(0, 0) + x.seen(0, 1), 0);
        due.is("q's", x.seen(1, 0) * 10 + x.seen(1, 1), 1);
        due.by("WORTH of a FILM to a PERSON; NONE when there are none such");
        FourOnOne y = Due.housed(FULL);
        due.is("the most there is", y.worth(4, 0), 6 * 9 * 9);
        due.is("9", y.worth(4, 7), 9);
        due.is("0", y.worth(0, 0), 0);
        int[][] rows = {{5, 0}, {-1, 0}, {0, 8}, {0, -1}, {LEAST, 0}, {MOST, 0}, {0, LEAST}, {0, MOST}};
        for (int[] row : rows) {
            none("worth " + row[0] + " " + row[1], y.worth(row[0], row[1]));
        }
    }

    /** The last of each, where there are as many as there can be. */
    private static void full() {
        due.by("a PROFILE of its own, and one of each PERSON: a TASTE for each KIND, 0 .. 999, how many parts of each FILM are SEEN");
        FourOnOne x = Due.housed(FULL);
        due.is("the last film", x.show(4, 7), 9);
        due.is("t's taste", x.taste(4, 5), 1);
        due.is("t's parts", x.seen(4, 7), 1);
        for (int person = -1; person < 4; person++) {
            due.is("nobody else's " + person, x.taste(person, 5) + x.seen(person, 7), 0);
        }
        due.is("the names", x.letter(0, 5, 0) * 10000 + x.letter(1, 7, 0) * 100 + x.letter(2, 4, 0), 61420);
        due.is("kept", x.kept(0, 2) * 10 + x.kept(0, 3), 47);
        // All parts of all films are 64: t has seen one of his own, the other four see the account's.
        due.is("all parts that are left", x.hours(100), 63 + 64);
        due.is("and none is left", x.suggest(4), -1);
        due.is("nor by the account", x.suggest(0), -1);
        for (int film = 0; film < 8; film++) {
            due.is("all of film " + film, x.seen(4, film) * 10 + x.seen(-1, film), x.film(film, 0) * 11);
            due.is("none is shown", x.show(4, film), NOTHING);
            due.is("none is shown to p", x.show(0, film), NOTHING);
            due.is("none by his own", x.seen(3, film), 0);
        }
        for (int kind = 0; kind < 6; kind++) {
            // 9 parts of g and 9 of its own film, each by 9.
            due.is("taste", x.taste(4, kind), kind == 5 ? 163 : 162);
        }
        due.is("t's hours", x.person(4, 3), 64);
        x.press(3, 1);
        due.is("the fourth by his own", x.hours(1), 1);
        due.is("his first part", x.seen(3, 0), 1);
    }

    private static void suggested() {
        due.by("of which not all parts are SEEN");
        FourOnOne x = Due.housed("kind k;film f parts 2 is k 5;film g parts 1 is k 1;person p at 0 to 23;");
        due.is("none of 2", x.suggest(0), 0);
        x.show(0, 0);
        due.is("1 of 2", x.suggest(0), 0);
        x.show(0, 0);
        due.is("2 of 2", x.suggest(0), 1);
        x.show(0, 1);
        due.by("none else");
        none("all of all", x.suggest(0));
        none("without films", Due.housed("person p at 0 to 23;").suggest(0));
        none("may never", Due.housed(ONE + "may not all;").suggest(0));
        due.by("the one with the greatest SCORE, of like ones the first");
        FourOnOne y = Due.housed("kind a;kind b;film f parts 2 is a 1;film g parts 2 is b 1;film h parts 2 is b 1;person p at 0 to 23;");
        due.is("1, 1, 1", y.suggest(0), 0);
        y.show(0, 2);
        due.is("1, 2, 2", y.suggest(0), 1);
        y.show(0, 0);
        due.is("2, 2, 2", y.suggest(0), 0);
        due.by("times the TASTE for it, together, 1 more");
        for (String[] row : new String[][] {{"score=1", "0"}, {"score>0", "0"}, {"score<1", "-1"}, {"score=0", "-1"}}) {
            due.is(row[0], Due.housed(ONE + "may " + row[0] + ";").suggest(0), Integer.parseInt(row[1]));
        }
        due.is("the greatest there is", scoreOfAll999(), 6 * 9 * 999 + 1);
        due.by("What is SUGGESTED to a PERSON now; NONE for none, or when there is none such");
        due.is("the last one", Due.housed(FULL).suggest(4), 0);
        for (int person : new int[] {-1, 5, LEAST, MOST}) {
            none("suggest " + person, Due.housed(FULL).suggest(person));
        }
    }

    /** By t's own profile. */
    private static long scoreOfAll999() {
        FourOnOne x = Due.housed(FULL + "learns 999;");
        x.show(4, 0);
        return Due.ask(x, 4, "most score");
    }

    private static void free() {
        due.by("who is free (from the first to the second HOUR of the day)");
        FourOnOne x = Due.housed("kind k;film f parts 9 is k 1;person p at 5 to 7;");
        int[] seen = new int[30];
        for (int hour = 0; hour < 30; hour++) {
            seen[hour] = x.hours(1);
            due.is("hour " + hour, seen[hour], hour >= 5 && hour <= 7 || hour == 29 ? 1 : 0);
        }
        FourOnOne y = Due.housed("kind k;film f parts 9 is k 1;person p at 0 to 0;person q at 23 to 23;");
        due.is("hour 0", y.hours(1), 1);
        due.is("hours 1 to 22", y.hours(22), 0);
        due.is("hour 23", y.hours(1), 1);
        due.is("hour 0 of day 1", y.hours(1), 1);
        due.is("p and q", y.person(0, 3) * 10 + y.person(1, 3), 21);
    }

    private static void screens() {
        due.by("as long as fewer than screens PEOPLE have seen one in this HOUR (else he is REFUSED)");
        for (int screens = 1; screens <= 5; screens++) {
            FourOnOne x = Due.housed(FULL + "screens " + screens + ";");
            for (int person = 0; person < 5; person++) {
                due.is("refused " + person, x.refused(person, 1), person < screens ? 0 : 1);
            }
            due.is("screens " + screens, x.hours(1), screens);
            for (int person = 0; person < 5; person++) {
                due.is("saw " + person, x.person(person, 3), person < screens ? 1 : 0);
            }
        }
        // Who is not free, or to whom none is suggested, takes none, and is not refused.
        FourOnOne y = Due.housed("kind k;film f parts 1 is k 1;film g parts 1 is k 1;person p at 1 to 1;person q at 0 to 0;"
            + "person r at 0 to 0;person s at 0 to 0;screens 2;");
        due.is("q and r", y.hours(1), 2);
        y.undo();
        due.is("p", y.refused(0, 1), 0);
        due.is("s: nothing is left", y.refused(3, 1), 0);
    }

    private static void learns() {
        due.by("the TASTE grows by the SUM of learns, 0 .. 999 (below is nothing, it is cut at 999)");
        String[] sums = {"0-9999", "0-1", "0", "1", "998", "999", "1000", "9999*9999"};
        int[] first = {0, 0, 0, 1, 998, 999, 999, 999};
        int[] second = {0, 0, 0, 2, 999, 999, 999, 999};
        for (int k = 0; k < sums.length; k++) {
            FourOnOne x = Due.housed(ONE + "learns " + sums[k] + ";");
            x.hours(1);
            due.is("learns " + sums[k], x.taste(-1, 0), first[k]);
            x.show(0, 0);
            due.is("again " + sums[k], x.taste(-1, 0), second[k]);
            due.is("both are seen " + sums[k], x.seen(-1, 0), 2);
        }
        // From 998: up to 999, no more.
        FourOnOne y = Due.housed(ONE + "learns 499;");
        y.hours(2);
        due.is("998", y.taste(-1, 0), 998);
        y.hours(1);
        due.is("999", y.taste(-1, 0), 999);
        due.by("by how much the FILM is of it without");
        FourOnOne z = Due.housed("kind k;kind l;film f parts 9 is k 9;person p at 0 to 23;");
        z.hours(9);
        due.is("9 times 9", z.taste(-1, 0), 81);
        due.is("not of it", z.taste(-1, 1), 0);
        due.by("for each KIND of the FILM");
        FourOnOne w = Due.housed("kind k;kind l;film f parts 9 is k 9;person p at 0 to 23;learns 7;");
        w.hours(1);
        due.is("of it", w.taste(-1, 0), 7);
        due.is("not of it", w.taste(-1, 1), 0);
    }

    private static void fades() {
        due.by("each TASTE of each PROFILE becomes the SUM of fades, 0 .. 999");
        String[] sums = {"0-1", "0-9999*9999", "0", "1", "999", "1000", "9999*9999", "taste-1", "taste*2"};
        int[] due9 = {0, 0, 0, 1, 999, 999, 999, 8, 18};
        int[] due0 = {0, 0, 0, 1, 999, 999, 999, 0, 0};
        for (int k = 0; k < sums.length; k++) {
            FourOnOne x = Due.housed("kind a;kind b;film f parts 1 is a 9;person p at 0 to 0;person q at 5 to 5;fades " + sums[k] + ";");
            x.hours(1);
            due.is("9 becomes " + sums[k], x.taste(-1, 0), due9[k]);
            due.is("0 becomes " + sums[k], x.taste(-1, 1), due0[k]);
            due.is("of p's " + sums[k], x.taste(0, 0) + x.taste(0, 1), 2 * due0[k]);
            due.is("of q's " + sums[k], x.taste(1, 0) + x.taste(1, 1), 2 * due0[k]);
        }
        FourOnOne full = Due.housed(FULL + "fades taste+7;may not all;");
        full.hours(1);
        for (int person = -1; person < 5; person++) {
            for (int kind = 0; kind < 6; kind++) {
                due.is("each of each", full.taste(person, kind), 7);
            }
        }
        due.by("(as it is without)");
        FourOnOne y = Due.housed(ONE);
        y.hours(30);
        due.is("9 stay", y.taste(-1, 0), 9);
        due.by("At last");
        // The hour that goes by is the one of fades; what is seen in it is in the taste already.
        FourOnOne z = Due.housed(ONE + "fades taste*100+hour;");
        z.hours(1);
        due.is("hour 0", z.taste(-1, 0), 100);
        FourOnOne w = Due.housed("kind k;fades hour;");
        w.hours(24);
        due.is("hour 23", w.taste(-1, 0), 23);
        w.hours(1);
        due.is("hour 0 of the next day", w.taste(-1, 0), 0);
    }

    private static void pleased() {
        due.by("PLEASED by its WORTH; who PRESSES by that less bother (below 0, too)");
        FourOnOne x = Due.housed(FULL + "bother 99;");
        due.is("t: 486 - 99", x.show(4, 0), 387);
        due.is("t: 9 - 99", x.show(4, 7), -90);
        due.is("p: 0", x.show(0, 0), 0);
        x.press(0, 1);
        due.is("p: 0 - 99", x.show(0, 0), -99);
        x.press(4, 0);
        due.is("t: 486", x.show(4, 0), 486);
    }

    private static void hourOfTheDay() {
        due.by("The HOUR is one more (behind 23 it is 0 of the next DAY");
        FourOnOne x = Due.housed("kind k;");
        x.hours(23);
        due.is("hour 23", x.has(4) * 100 + x.has(5), 23);
        x.hours(1);
        due.is("day 1", x.has(4) * 100 + x.has(5), 100);
        x.hours(24);
        due.is("day 2", x.has(4) * 100 + x.has(5), 200);
        x.chance(25);
        due.is("day 3, hour 1", x.has(4) * 100 + x.has(5), 301);
    }

    /** At that hour, with nothing seen. */
    private static FourOnOne at(int day, int hour) {
        FourOnOne x = Due.housed(ONE);
        due.is("day " + day + ", hour " + hour,
            Due.on(x, Due.checked(day / 256, day % 256, hour, 0, 0, 0, 0, 0, 0, 0, 0, 0, 0)), true);
        return x;
    }

    private static void lastHour() {
        due.by("999 at most)");
        FourOnOne x = at(998, 23);
        due.is("the first of day 999", x.hours(1), 1);
        due.is("day 999", x.has(4) * 100 + x.has(5), 99900);
        due.is("24 hours are too many", x.hours(24), -1);
        due.is("by the seed, too", x.chance(24), -1);
        due.is("23 are not", x.hours(23), 8);
        due.is("day 999, hour 23", x.has(4) * 100 + x.has(5), 99923);
        due.is("not one more", x.hours(1), -1);
        due.is("nor by the seed", x.chance(1), -1);
        due.is("there it stays", x.has(4) * 100 + x.has(5), 99923);
        due.is("refused", x.status(3), 4);
        due.is("two acts", x.has(10), 2);
        FourOnOne y = at(999, 22);
        due.is("the last one by the seed", y.chance(1), 0);
        due.is("day 999, hour 23", y.has(4) * 100 + y.has(5), 99923);
        due.is("a film is shown still", y.show(0, 0), 0);
        due.is("kept then", y.kept(1, 0) * 100 + y.kept(1, 1), 99923);
        due.is("he presses still", y.press(0, 1), true);
        due.is("he is suggested one still", y.suggest(0), 0);
        FourOnOne z = at(995, 19);
        due.is("100 hours and one more are left", z.hours(100), 9);
        due.is("day 999, hour 23", z.has(4) * 100 + z.has(5), 99923);
        FourOnOne w = at(995, 20);
        due.is("99 hours and one more are left", w.hours(100), -1);
        due.is("nor by the seed", w.chance(100), -1);
        due.is("99 hours", w.chance(99), 0);
    }

    private static void kept() {
        due.by("KEPT is each part that was seen; the last 40 are told");
        FourOnOne x = Due.housed(FULL);
        due.is("none", x.has(8), 0);
        none("none", x.kept(0, 0));
        x.hours(7);
        due.is("35", x.has(8), 35);
        none("no 36th", x.kept(35, 0));
        x.hours(1);
        due.is("40", x.has(8), 40);
        due.is("the first", x.kept(0, 1) * 10 + x.kept(0, 2), 0);
        due.is("the 40th", x.kept(39, 1) * 10 + x.kept(39, 2), 74);
        x.show(2, 7);
        due.is("40 still", x.has(8), 40);
        due.is("the second", x.kept(0, 1) * 10 + x.kept(0, 2), 1);
        due.is("the 41st", x.kept(39, 1) * 100 + x.kept(39, 2) * 10 + x.kept(39, 3), 827);
        x.undo();
        due.is("the first is back", x.kept(0, 1) * 10 + x.kept(0, 2), 0);
        x.undo();
        x.undo();
        due.is("undone", x.has(8), 0);
        // Five in each of 16 hours, t alone in four more: of hour 8 it is t's that is told.
        due.is("84 parts", x.hours(20), 84);
        due.is("40 of 84", x.has(8), 40);
        due.is("the oldest of them", x.kept(0, 1) * 10 + x.kept(0, 2), 84);
        due.is("the latest", x.kept(39, 1) * 10 + x.kept(39, 2), 194);
        due.by("the k-th from the oldest on: 0 DAY, 1 HOUR, 2 PERSON, 3 FILM. NONE when there is none such, or for others");
        for (int k : new int[] {-1, 40, 41, 100, LEAST, MOST}) {
            none("kept " + k, x.kept(k, 0) & x.kept(k, 2));
        }
        for (int what : new int[] {-1, 4, 5, LEAST, MOST}) {
            none("what " + what, x.kept(0, what));
        }
    }

    private static final String STOOD = "kind a;kind b;film f parts 3 is a 2;film g parts 2 is b 1 a 1;person p at 0 to 23;"
        + "person q at 1 to 3;likes p a 4;likes q b 2;press q;screens 2;price 10;bother 1;strange 50;fades max(taste-1,0);";

    /** An account in which something has happened. All of g is seen by p. */
    static FourOnOne stood() {
        FourOnOne x = Due.housed(STOOD);
        x.hours(2);
        x.show(0, 1);
        x.press(0, 1);
        x.show(0, 1);
        x.show(0, 1);
        Due.tell(x, 0, 0, 1, 2, 1, 0);
        x.image();
        return x;
    }

    private static void refused(String call, FourOnOne x, String before, int counter, int count) {
        due.stays(call, x, before);
        for (int what = 0; what <= 5; what++) {
            due.is(call + ": status " + what, x.status(what), what == counter ? count : 0);
        }
    }

    private static void press() {
        due.by("A PERSON PRESSES (on 1), or no more (0): false, refused (2), when there is none such, it is so already, or for others");
        int[][] rows = {{-1, 1}, {2, 1}, {5, 0}, {31, 1}, {32, 0}, {33, 0}, {LEAST, 1}, {MOST, 0}, {0, 1}, {1, 1}, {0, 2}, {0, -1},
            {0, LEAST}, {0, MOST}, {0, 256}};
        for (int[] row : rows) {
            FourOnOne x = stood();
            String before = Whole.of(x);
            due.is("press " + row[0] + " " + row[1], x.press(row[0], row[1]), false);
            refused("press " + row[0] + " " + row[1], x, before, 2, 1);
        }
        FourOnOne x = stood();
        due.is("no more", x.press(0, 0), true);
        due.is("no more already", x.press(0, 0), false);
        due.is("again", x.press(0, 1), true);
        due.is("again already", x.press(0, 1), false);
        FourOnOne full = Due.housed(FULL);
        due.is("the last one", full.press(4, 0), true);
        due.is("none", full.has(6), 0);
        for (int person = 0; person < 5; person++) {
            due.is("press " + person, full.press(person, 1), true);
        }
        due.is("all", full.has(6), 5);
    }

    private static void show() {
        due.by("NOTHING, refused (2), when all parts are SEEN, or there are none such");
        int[][] rows = {{-1, 0}, {2, 0}, {LEAST, 0}, {MOST, 0}, {0, -1}, {0, 2}, {0, 8}, {0, LEAST}, {0, MOST}, {0, 1}};
        for (int[] row : rows) {
            FourOnOne x = stood();
            String before = Whole.of(x);
            due.is("show " + row[0] + " " + row[1], x.show(row[0], row[1]), NOTHING);
            refused("show " + row[0] + " " + row[1], x, before, 2, 1);
        }
        FourOnOne x = Due.housed(ONE);
        for (int k = 0; k < 9; k++) {
            due.is("part " + (k + 1), x.show(0, 0), 0);
        }
        due.is("no 10th", x.show(0, 0), NOTHING);
        due.is("nine", x.seen(-1, 0), 9);
        due.by("screens, when he is free, may are not asked, nothing fades, no HOUR goes by");
        FourOnOne y = Due.housed("kind k;film f parts 9 is k 9;person p at 5 to 5;person q at 5 to 5;screens 1;may not all;fades 0;");
        due.is("p", y.show(0, 0), 0);
        due.is("q", y.show(1, 0), 0);
        due.is("two parts", y.seen(-1, 0), 2);
        due.is("the taste", y.taste(-1, 0), 18);
        due.is("no hour", y.has(4) + y.has(5), 0);
        due.by("it counts as an HOUR in which he saw");
        due.is("p and q", y.person(0, 3) * 10 + y.person(1, 3), 11);
        due.is("together", y.has(7), 2);
    }

    private static void hours() {
        due.by("n HOURS (1 .. 100): how many parts were seen; NONE, refused (3), when it can't be");
        for (int n : new int[] {0, -1, 101, 1000, LEAST, MOST}) {
            FourOnOne x = stood();
            String before = Whole.of(x);
            none("hours " + n, x.hours(n));
            refused("hours " + n, x, before, 3, 1);
        }
        FourOnOne x = Due.housed(ONE);
        due.is("1", x.hours(1), 1);
        due.is("100", x.hours(100), 8);
        due.is("101 hours", x.has(4) * 100 + x.has(5), 405);
        due.is("two acts", x.has(10), 2);
        due.is("none is left", x.hours(100), 0);
    }

    private static void chance() {
        due.by("n HOURS by the seed (1 .. 100), one ACT: NONE, refused (3), when it can't be");
        for (int n : new int[] {0, -1, 101, 1000, LEAST, MOST}) {
            FourOnOne x = stood();
            String before = Whole.of(x);
            none("chance " + n, x.chance(n));
            refused("chance " + n, x, before, 3, 1);
            // No draw was made.
            FourOnOne y = stood();
            due.is("the draws", x.chance(10), y.chance(10));
            due.stays("the draws", x, Whole.of(y));
        }
        FourOnOne x = Due.housed("kind k;film f parts 9 is k 1;strange 100;");
        due.is("1", x.chance(1), 1);
        due.is("100: eight parts are left", x.chance(100), 8);
        due.is("101 hours", x.has(4) * 100 + x.has(5), 405);
        due.is("two acts", x.has(10), 2);
    }

    private static final String EIGHT = "kind k;film a parts 9 is k 1;film b parts 9 is k 1;film c parts 9 is k 1;film d parts 9 is k 1;"
        + "film e parts 9 is k 1;film f parts 9 is k 1;film g parts 9 is k 1;film h parts 9 is k 1;";

    private static int strangerBy(int seed, int strange) {
        FourOnOne x = Due.housed(EIGHT + "strange " + strange + ";");
        x.seed(seed);
        return x.chance(1);
    }

    private static void draws() {
        due.by("x (the seed) becomes (1103515245 x + 12345) mod 2 to the 31; floor(x / 64) mod m");
        // From 1: 1103527590 (18), 377401575 (film 3 of 8), 662824084 (26), 1147902781 (film 4), 2035015474 (16).
        FourOnOne x = Due.housed(EIGHT + "strange 27;");
        due.is("18, 26, 16 are below 27", x.chance(3), 3);
        due.is("films", x.kept(0, 3) * 10 + x.kept(1, 3), 34);
        due.is("strangers", x.kept(0, 2) * 10 + x.kept(2, 2), 99);
        // From 0: 12345, of which 192 is left, and 92 of 100. From the greatest seed: 1043980748 (99).
        due.is("92 is below 93", strangerBy(0, 93), 1);
        due.is("92 is not below 92", strangerBy(0, 92), 0);
        due.is("99 is below 100", strangerBy(MOST, 100), 1);
        due.is("99 is not below 99", strangerBy(MOST, 99), 0);
        due.by("below strange");
        int zero = HouseBoundsTest.seedOfFirstDraw(0);
        due.is("0 is below 1", strangerBy(zero, 1), 1);
        due.is("0 is not below 0", strangerBy(zero, 0), 0);
        for (int seed = 0; seed < 20; seed++) {
            due.is("all come by 100", strangerBy(seed, 100), 1);
            due.is("none comes by 0", strangerBy(seed, 0), 0);
        }
    }

    private static void strangers() {
        due.by("if there are FILMS, a DRAW of these");
        // Two hours without films make two draws, with one of them four: the 5th is 16 (below 17), the third 26.
        FourOnOne x = Due.housed("kind k;strange 100;");
        due.is("no films", x.chance(2), 0);
        Due.house(x, "kind k;film f parts 9 is k 1;strange 27;");
        due.is("the third draw: 26", x.chance(1), 1);
        x = Due.housed("kind k;strange 100;");
        x.chance(2);
        Due.house(x, "kind k;film f parts 9 is k 1;strange 26;");
        due.is("26 is not below 26", x.chance(1), 0);
        x = Due.housed("kind k;film f parts 9 is k 1;strange 100;");
        due.is("two strangers", x.chance(2), 2);
        Due.house(x, "kind k;film f parts 9 is k 1;strange 17;");
        due.is("the fifth draw: 16", x.chance(1), 1);
        due.by("a stranger sees a part of that one, if not all are SEEN, by the account's PROFILE, of no screen");
        FourOnOne y = Due.housed("kind k;film f parts 2 is k 5;person p at 0 to 23;press p;screens 1;strange 100;may not all;");
        due.is("three hours, two parts", y.chance(3), 2);
        due.is("the account's", y.seen(-1, 0) * 100 + y.taste(-1, 0), 210);
        due.is("not p's", y.seen(0, 0) + y.taste(0, 0) + y.person(0, 3), 0);
        due.is("kept as strangers", y.kept(0, 2) * 10 + y.kept(1, 2), 99);
        due.is("none of the people's", y.has(7), 0);
        FourOnOne z = Due.housed("kind k;film f parts 2 is k 5;person p at 0 to 23;screens 1;strange 100;");
        due.is("a stranger", z.chance(1), 1);
        due.is("and p, on the one screen", z.person(0, 3), 1);
        due.is("in his turn", z.kept(0, 2) * 10 + z.kept(1, 2), 90);
        due.is("nothing is left for strangers", z.chance(5), 0);
    }

    private static void undo() {
        due.by("The last 20 can be undone");
        for (int acts = 19; acts <= 22; acts++) {
            FourOnOne x = Due.housed("kind k;");
            for (int k = 0; k < acts; k++) {
                x.hours(1);
            }
            int can = Math.min(acts, 20);
            due.is(acts + " acts", x.has(10), can);
            for (int k = 0; k < can; k++) {
                due.is("undo " + k, x.undo(), true);
                due.is("the hour", x.has(5), acts - 1 - k);
            }
            due.is("no more", x.undo(), false);
            due.is("refused", x.status(4), 1);
        }
        due.by("false, refused (4), when none can be");
        FourOnOne x = stood();
        for (int k = 0; k < 5; k++) {
            due.is("undo " + k, x.undo(), true);
        }
        String before = Whole.of(x);
        due.is("none can be", x.undo(), false);
        refused("undo", x, before, 4, 1);
    }

    /** Through all acts there are, back and forth, far around the ring of the last 20. */
    private static void undoesAll() {
        due.by("The latest ACT is undone (the seed stays)");
        FourOnOne x = Due.housed(STOOD);
        for (int k = 0; k < 50; k++) {
            x.press(1, k % 2);
        }
        for (int k = 0; k <= 5; k++) {
            due.is("act " + k, act(x, k), true);
        }
        for (int k = 5; k >= 1; k--) {
            due.is("undo " + k, x.undo(), true);
        }
        FourOnOne alike = Due.housed(STOOD);
        for (int k = 0; k < 14; k++) {
            alike.press(1, k % 2);
        }
        act(alike, 0);
        due.stays("five acts undone", x, Whole.of(alike));
        // What was refused is no act.
        x = stood();
        String before = Whole.of(x);
        x.hours(7);
        x.hours(0);
        x.chance(101);
        x.press(0, 7);
        x.show(9, 9);
        x.seed(-5);
        x.on();
        x.tell();
        due.is("the hours", x.undo(), true);
        due.stays("the hours", x, before);
        // Each draw is another one: what is undone is not drawn again.
        FourOnOne y = Due.housed(EIGHT + "strange 27;");
        int[] drawn = new int[3];
        for (int k = 0; k < 3; k++) {
            y.chance(1);
            drawn[k] = y.kept(0, 3);
            y.undo();
            due.is("nothing kept", y.has(8), 0);
        }
        due.is("films 3, 4", drawn[0] * 10 + drawn[1], 34);
    }

    private static boolean act(FourOnOne x, int which) {
        switch (which) {
            case 0: return x.hours(1) >= 0;
            case 1: return x.press(0, 1);
            case 2: return x.show(0, 1) != NOTHING;
            case 3: return x.chance(3) >= 0;
            case 4: return x.show(1, 1) != NOTHING;
            default: return x.hours(20) >= 0;
        }
    }

    private static void seeds() {
        due.by("The seed: true; false, refused (5), when it is below 0. (It is 1 at first.)");
        for (int seed : new int[] {-1, -2, LEAST}) {
            FourOnOne x = stood();
            String before = Whole.of(x);
            due.is("seed " + seed, x.seed(seed), false);
            refused("seed " + seed, x, before, 5, 1);
            FourOnOne y = stood();
            due.is("it stays", x.chance(10), y.chance(10));
            due.stays("it stays", x, Whole.of(y));
        }
        FourOnOne x = stood();
        due.is("0", x.seed(0), true);
        due.is("1", x.seed(1), true);
        due.is("the greatest", x.seed(MOST), true);
        FourOnOne first = stood();
        FourOnOne one = stood();
        one.seed(1);
        due.is("1 at first", first.chance(15), one.chance(15));
        due.stays("1 at first", first, Whole.of(one));
    }

    private static void status() {
        due.by("How many were refused: .. NONE for others");
        FourOnOne x = new FourOnOne();
        for (int what = 0; what <= 5; what++) {
            due.is("none yet " + what, x.status(what), 0);
        }
        for (int what : new int[] {-1, 6, 7, LEAST, MOST}) {
            none("status " + what, x.status(what));
        }
        due.by("0 feed(), end(); 1 house(), tell(); 2 press(), show(); 3 hours(), chance(); 4 undo(); 5 seed(), on()");
        for (int k = 1; k <= 3; k++) {
            x.end(1);
            x.end(-1);
            Due.house(x, "x");
            x.tell();
            x.press(0, 1);
            x.show(0, 0);
            x.hours(0);
            x.chance(0);
            x.undo();
            x.seed(-1);
            x.on();
            for (int what = 0; what <= 5; what++) {
                due.is("status " + what, x.status(what), what == 4 ? k : 2 * k);
            }
        }
        // They count calls, not what is in a house.
        Due.house(x, STOOD);
        due.is("a house takes none of them", x.status(1) * 10 + x.status(4), 63);
    }
}
