/** Terms III, promises 15 to 25: each sentence that names a boundary, on both sides of it. */
public final class AheadBoundsTest {
    private static final Due due = new Due("AheadBoundsTest");
    private static final int LEAST = Integer.MIN_VALUE;
    private static final int MOST = Integer.MAX_VALUE;
    private static final long NOTHING = FourOnOne.NOTHING;
    private static final String FULL = AccountBoundsTest.FULL;
    private static final String ONE = "kind k;film f parts 9 is k 1;person p at 0 to 23;likes p k 1;";
    /** For p's eyes two films, of 18 parts, one an hour. */
    private static final String TWO = "kind k;film f parts 9 is k 1;film g parts 9 is k 1;person p at 0 to 23;person q at 0 to 23;"
        + "likes p k 2;likes q k 1;screens 1;bother 3;";

    public static void main(String[] args) {
        pleased();
        pleasedMost();
        refused();
        pressing();
        rest();
        restOfFive();
        gone();
        sow();
        lastDay();
        nothingGoesBy();
        who();
        sofa();
        sofaLike();
        share();
        shareMost();
        tell();
        pressed();
        pressedLastDay();
        pressedOfFive();
        due.end();
    }

    private static void none(String call, long got) {
        due.is(call, got, -1);
    }

    private static final int[] NOBODY = {-1, 2, 5, 31, LEAST, MOST};
    private static final int[] NOT_TO_72 = {-1, 73, 100, LEAST, MOST};

    private static void pleased() {
        due.by("PLEASURE of a PERSON n HOURS AHEAD (0 .. 72); NOTHING when there is none such, or n can't be");
        FourOnOne x = Due.housed(TWO);
        due.is("0", x.pleased(0, 0), 0);
        due.is("1", x.pleased(0, 1), 2);
        due.is("18: all parts", x.pleased(0, 18), 36);
        due.is("19: none is left", x.pleased(0, 19), 36);
        due.is("71", x.pleased(0, 71), 36);
        due.is("72", x.pleased(0, 72), 36);
        due.is("q", x.pleased(1, 72), 0);
        for (int n : NOT_TO_72) {
            due.is("n " + n, x.pleased(0, n), NOTHING);
        }
        for (int person : NOBODY) {
            due.is("person " + person, x.pleased(person, 1), NOTHING);
        }
        due.by("(below 0, too)");
        // With one screen q sees nothing till p has seen all parts of the account's; behind that all parts of his own, each 1 less 3.
        x.press(1, 1);
        due.is("hour 18 is q's first", x.pleased(1, 18), 0);
        due.is("hour 18", x.pleased(1, 19), -2);
        due.is("all", x.pleased(1, 72), -36);
    }

    private static void pleasedMost() {
        due.by("AHEAD are HOURS as they come from now on (72 at most)");
        StringBuilder house = new StringBuilder("kind a;kind b;kind c;kind d;kind e;kind f;");
        for (char film = 'g'; film <= 'n'; film++) {
            house.append("film ").append(film).append(" parts 9 is a 9 b 9 c 9 d 9 e 9 f 9;");
        }
        String people = "person p at 0 to 23;likes p a 9;likes p b 9;likes p c 9;likes p d 9;likes p e 9;likes p f 9;";
        FourOnOne x = Due.housed(house + people);
        due.is("71 of 72 parts", x.pleased(0, 71), 71 * 486);
        due.is("72 of 72 parts", x.pleased(0, 72), 72 * 486);
        due.is("that many a day", x.pleased(0, 24), 24 * 486);
        FourOnOne y = Due.housed(house + "person p at 0 to 23;press p;bother 99;");
        due.is("72 times less 99", y.pleased(0, 72), -72 * 99);
        due.is("and that by pressing", y.pressing(0, 72), -72 * 99);
        due.by("without DRAWS");
        FourOnOne z = Due.housed(house + people + "strange 100;");
        due.is("no stranger takes a part", z.pleased(0, 72), 72 * 486);
    }

    private static void refused() {
        due.by("How often a PERSON is REFUSED in n HOURS AHEAD (0 .. 72); NONE when there is none such, or n can't be");
        FourOnOne x = Due.housed(TWO);
        due.is("0", x.refused(1, 0), 0);
        due.is("1", x.refused(1, 1), 1);
        due.is("17", x.refused(1, 17), 17);
        due.is("18: p has the last part, nothing is suggested to q", x.refused(1, 18), 17);
        due.is("72", x.refused(1, 72), 17);
        due.is("p", x.refused(0, 72), 0);
        for (int n : NOT_TO_72) {
            none("n " + n, x.refused(1, n));
        }
        for (int person : NOBODY) {
            none("person " + person, x.refused(person, 1));
        }
        FourOnOne full = Due.housed(FULL + "screens 4;");
        due.is("t by his own, behind the four", full.refused(4, 16), 16);
        due.is("the four have seen all", full.refused(4, 17), 16);
        x.press(1, 1);
        due.is("q by his own", x.refused(1, 72), 18);
    }

    private static void pressing() {
        due.by("What PRESSING is worth to a PERSON n HOURS AHEAD (0 .. 72); NOTHING when there is none such, or n can't be");
        FourOnOne x = Due.housed(TWO);
        due.is("0", x.pressing(0, 0), 0);
        due.is("1: 2 - 3 instead of 2", x.pressing(0, 1), -3);
        due.is("72: 18 times less 3", x.pressing(0, 72), -54);
        due.is("q: 18 times 1 - 3", x.pressing(1, 72), -36);
        for (int n : NOT_TO_72) {
            due.is("n " + n, x.pressing(0, n), NOTHING);
        }
        for (int person : NOBODY) {
            due.is("person " + person, x.pressing(person, 1), NOTHING);
        }
        due.by("if he PRESSES from now on, than if not (all others as they are)");
        x.press(1, 1);
        due.is("q presses already", x.pressing(1, 72), -36);
        // q presses, has seen nothing of his own: p sees all 18 parts, however he goes.
        due.is("p, where q presses", x.pressing(0, 72), -54);
        x.press(0, 1);
        due.is("p presses already", x.pressing(0, 1), -3);
    }

    private static void rest() {
        due.by("At REST, n HOURS AHEAD (0 .. 48): who PRESS, as bits; NONE when no set is, or n can't be");
        // Of one part each sees one, if no two of them go by the account's.
        String two = "kind k;film f parts 1 is k 1;person p at 0 to 23;person q at 0 to 23;likes p k 1;likes q k 1;";
        FourOnOne x = Due.housed(two);
        due.is("0: all are like", x.rest(0), 0);
        due.is("1", x.rest(1), 1);
        due.is("48", x.rest(48), 1);
        for (int n : new int[] {-1, 49, 72, LEAST, MOST}) {
            none("n " + n, x.rest(n));
        }
        due.is("nobody", new FourOnOne().rest(48), 0);
        due.is("nobody in a house", Due.housed("kind k;film f parts 1 is k 1;").rest(48), 0);
        due.is("one, who needs none", Due.housed(ONE).rest(48), 0);
        due.by("NONE when no set is");
        FourOnOne y = Due.housed("kind a;film f parts 1 is a 2;film g parts 1 is a 4;person p at 2 to 4;person q at 1 to 4;"
            + "person r at 0 to 23;likes p a 5;likes q a 4;likes r a 9;bother 7;");
        none("5", y.rest(5));
        due.by("of whom none would have more PLEASURE, if he alone did otherwise");
        // Pressing is worth 1 - bother: as much as not pressing, if bother is 1.
        due.is("as much is not more", Due.housed(two + "bother 1;").rest(1), 0);
        due.is("less is not more", Due.housed(two + "bother 2;").rest(1), 0);
        due.by("the one of fewest, of like ones the least bits");
        due.is("p or q", x.rest(2), 1);
        due.is("q, where p has too much bother", Due.housed("kind k;film f parts 1 is k 1;person p at 0 to 23;person q at 0 to 23;"
            + "likes p k 1;likes q k 3;bother 2;").rest(1), 2);
    }

    private static void restOfFive() {
        due.by("At REST is a set of who PRESSES from now on");
        String five = "kind k;film f parts 1 is k 1;person p at 0 to 23;person q at 0 to 23;person r at 0 to 23;"
            + "person s at 0 to 23;person t at 0 to 23;likes p k 1;likes q k 1;likes r k 1;likes s k 1;likes t k 1;";
        FourOnOne x = Due.housed(five);
        due.is("four of five: of like ones the least bits", x.rest(1), 15);
        x.show(4, 0);
        due.is("all five, where the account's is seen", x.rest(1), 31);
        due.is("48 hours", x.rest(48), 31);
        x.press(0, 1);
        due.is("whoever presses now", x.rest(1), 31);
        x = Due.housed(five + "press t;");
        x.show(4, 0);
        // t has seen his own: for him nothing is left, however he goes, and s has the account's.
        due.is("three of five", x.rest(1), 7);
    }

    private static void gone() {
        due.by("GONE: in how many HOURS AHEAD (0: now); NONE when it is not, or there are none such");
        String house = "kind k;kind l;film f parts 1 is k 1;person p at 0 to 0;person q at 0 to 0;press q;fades taste-1;learns ";
        int[] tastes = {1, 2, 71, 72, 73, 999};
        for (int taste : tastes) {
            FourOnOne x = Due.housed(house + taste + ";");
            due.is("now", x.gone(0, 0), 0);
            x.show(0, 0);
            due.is("taste " + taste, x.gone(0, 0), taste <= 72 ? taste : -1);
            due.is("of the other kind", x.gone(0, 1), 0);
            due.is("by q's own", x.gone(1, 0), 0);
        }
        FourOnOne x = Due.housed(house + "72;");
        for (int person : NOBODY) {
            none("person " + person, x.gone(person, 0));
        }
        for (int kind : NOBODY) {
            none("kind " + kind, x.gone(0, kind));
        }
        due.is("the last of all", Due.housed(FULL).gone(4, 5), 0);
        none("behind the last", Due.housed(FULL).gone(5, 5));
        none("behind the last kind", Due.housed(FULL).gone(4, 6));
        due.by("in how many HOURS AHEAD first");
        // 5 now, at hour 1 it is 0, then 5 again, and so on.
        FourOnOne y = Due.housed("kind k;film f parts 1 is k 5;fades 5-taste;person p at 0 to 0;");
        y.show(0, 0);
        due.is("after one", y.gone(0, 0), 1);
        y.hours(1);
        due.is("now", y.gone(0, 0), 0);
        // What is seen on the way counts: the part of hour 1 makes it 2 anew.
        FourOnOne z = Due.housed("kind k;film f parts 2 is k 2;person p at 1 to 1;fades taste-1;");
        z.show(0, 0);
        due.is("2, 1 and 2, 2, 1, 0", z.gone(0, 0), 4);
    }

    private static void sow() {
        due.by("SOWN for a PERSON, n HOURS AHEAD (0 .. 72): the FILM. NONE when none can be shown, there is none such, or n can't be");
        FourOnOne x = Due.housed("kind a;kind b;film x parts 2 is a 1;film y parts 9 is b 1;person p at 0 to 23;person q at 0 to 23;"
            + "likes p b 5;screens 1;");
        due.is("0: all are like", x.sow(0, 0), 0);
        due.is("1: y behind y", x.sow(0, 1), 1);
        due.is("8: y eight times behind y", x.sow(0, 8), 1);
        due.is("9: behind x, too, one of x and eight of y", x.sow(0, 9), 0);
        due.is("10: behind x nine of y", x.sow(0, 10), 0);
        due.is("72", x.sow(0, 72), 0);
        for (int n : NOT_TO_72) {
            none("n " + n, x.sow(0, n));
        }
        for (int person : NOBODY) {
            none("person " + person, x.sow(person, 1));
        }
        due.is("q has no pleasure: the first", x.sow(1, 72), 0);
        x.show(0, 0);
        x.show(0, 0);
        due.is("x can't be shown", x.sow(0, 9), 1);
        x.press(0, 1);
        due.is("by his own it can", x.sow(0, 9), 0);
        x.press(0, 0);
        for (int k = 0; k < 8; k++) {
            x.show(0, 1);
        }
        due.is("the last part", x.sow(0, 0), 1);
        x.show(0, 1);
        none("none can be shown", x.sow(0, 0));
        none("none can be shown", x.sow(0, 72));
        due.is("the last film alone", lastAlone().sow(4, 72), 7);
        none("without films", Due.housed("kind k;person p at 0 to 23;").sow(0, 0));
        due.by("in n HOURS AHEAD he has most PLEASURE (what he has of it now does not count)");
        // All is below 0: x now, then y, z: -1 and -2; y now: x, z: -2 and -2, since it is seen; z alike.
        FourOnOne y = Due.housed("kind a;film x parts 1 is a 1;film y parts 1 is a 2;film z parts 1 is a 1;person p at 0 to 23;"
            + "press p;likes p a 1;bother 3;");
        due.is("-1 - 2 is more than -2 - 2", y.sow(0, 2), 0);
        due.by("of like ones the first");
        FourOnOne z = Due.housed("kind a;film x parts 1 is a 1;film y parts 1 is a 1;film z parts 1 is a 1;person p at 0 to 23;likes p a 1;");
        due.is("x", z.sow(0, 2), 0);
        z.show(0, 0);
        due.is("y", z.sow(0, 2), 1);
    }

    /** The full house, of which t has seen all but the last film. */
    private static FourOnOne lastAlone() {
        FourOnOne x = Due.housed(FULL);
        for (int film = 0; film < 7; film++) {
            for (int k = 0; k < 9; k++) {
                x.show(4, film);
            }
        }
        return x;
    }

    /** At that hour of day 999, with that taste of the account. */
    private static FourOnOne day999(int hour, int taste) {
        FourOnOne x = Due.housed(ONE + "screens 1;fades taste-1;learns 1;");
        Due.on(x, Due.checked(3, 231, hour, taste / 256, taste % 256, 9, 0, 0, 0, 0, 0, 0, 0));
        due.is("day 999", x.has(4) * 100 + x.has(5), 99900 + hour);
        return x;
    }

    private static void lastDay() {
        due.by("not beyond DAY 999");
        for (int hour : new int[] {23, 22, 20, 0}) {
            FourOnOne x = day999(hour, 0);
            int left = 23 - hour;
            due.is("pleased", x.pleased(0, left), 0);
            due.is("not pleased", x.pleased(0, left + 1), NOTHING);
            due.is("refused", x.refused(0, left), 0);
            none("not refused", x.refused(0, left + 1));
            due.is("pressing", x.pressing(0, left) >= 0, true);
            due.is("not pressing", x.pressing(0, left + 1), NOTHING);
            due.is("rest", x.rest(left), left == 0 ? 0 : 1);
            none("no rest", x.rest(left + 1));
            none("sow: all parts are seen", x.sow(0, left));
            x.press(0, 1);
            due.is("sow", x.sow(0, left), 0);
            none("not sow", x.sow(0, left + 1));
            none("hours", x.hours(left + 1));
            none("chance", x.chance(left + 1));
        }
        for (int hour : new int[] {23, 22, 20}) {
            int left = 23 - hour;
            due.is("gone in the last one", day999(hour, left).gone(0, 0), left);
            none("not beyond", day999(hour, left + 1).gone(0, 0));
        }
        FourOnOne x = Due.housed(ONE);
        Due.on(x, Due.checked(3, 229, 0, 0, 0, 0, 0, 0, 0, 0, 0, 0, 0));
        due.is("day 997", x.has(4), 997);
        due.is("71 hours", x.pleased(0, 71), 9);
        due.is("72 hours", x.pleased(0, 72), NOTHING);
        Due.on(x, Due.checked(3, 228, 23, 0, 0, 0, 0, 0, 0, 0, 0, 0, 0));
        due.is("one hour ahead of it: 72 hours", x.pleased(0, 72), 9);
        due.is("48 hours", x.rest(48), 0);
    }

    private static void nothingGoesBy() {
        due.by("AHEAD are HOURS as they come from now on");
        FourOnOne x = AccountBoundsTest.stood();
        String before = Whole.of(x);
        x.pleased(0, 72);
        x.refused(1, 72);
        x.pressing(0, 72);
        x.pressing(1, 72);
        x.rest(48);
        x.gone(0, 0);
        x.gone(1, 1);
        x.sow(0, 72);
        x.sow(1, 72);
        x.pressed(0);
        x.who(0, 0, 0);
        x.sofa(3, 2);
        x.share(0);
        x.suggest(0);
        due.stays("looking ahead", x, before);
        FourOnOne y = AccountBoundsTest.stood();
        due.is("no draw is made", x.chance(10), y.chance(10));
        due.stays("no draw is made", x, Whole.of(y));
    }

    private static void who() {
        due.by("of those who are free then by ODDS of its WORTH for them and 1, in millionths (floor)");
        FourOnOne x = Due.housed("kind k;film f parts 1 is k 1;film g parts 1 is k 9;person p at 5 to 7;person q at 7 to 9;"
            + "person r at 7 to 7;likes p k 1;");
        int[][] rows = {{0, 0, 5, 1000000}, {0, 0, 7, 500000}, {1, 0, 7, 250000}, {2, 0, 7, 250000}, {0, 0, 9, 0}, {1, 0, 9, 1000000},
            {0, 1, 7, 833333}, {1, 1, 7, 83333}};
        for (int[] row : rows) {
            due.is("who " + row[0] + " " + row[1] + " " + row[2], x.who(row[0], row[1], row[2]), row[3]);
        }
        due.by("NONE when there are none such, or none is free then");
        int[][] bad = {{0, 0, 4}, {0, 0, 10}, {0, 0, 0}, {0, 0, 23}, {0, 0, -1}, {0, 0, 24}, {0, 0, LEAST}, {0, 0, MOST}, {-1, 0, 7},
            {3, 0, 7}, {LEAST, 0, 7}, {MOST, 0, 7}, {0, -1, 7}, {0, 2, 7}, {0, LEAST, 7}, {0, MOST, 7}};
        for (int[] row : bad) {
            none("who " + row[0] + " " + row[1] + " " + row[2], x.who(row[0], row[1], row[2]));
        }
        FourOnOne full = Due.housed(FULL);
        // 487 of 491.
        due.is("the greatest worth", full.who(4, 0, 23), 991853);
        due.is("the least", full.who(0, 0, 0), 2036);
        due.is("the last film: 10 of 14", full.who(4, 7, 0), 714285);
        none("behind the last", full.who(5, 7, 0) & full.who(4, 8, 0));
    }

    private static void sofa() {
        due.by("A SOFA for PEOPLE (bits, one at least) by a rule (0 .. 2): the FILM; NONE without FILMS, or when there are none such");
        FourOnOne full = Due.housed(FULL);
        for (int rule = 0; rule <= 2; rule++) {
            for (int people : new int[] {1, 16, 31}) {
                due.is("sofa " + people + " " + rule, full.sofa(people, rule), 0);
            }
            for (int people : new int[] {0, 32, 33, 64, -1, -32, LEAST, MOST}) {
                none("sofa " + people + " " + rule, full.sofa(people, rule));
            }
            none("without films", Due.housed("kind k;person p at 0 to 23;").sofa(1, rule));
            none("nobody", Due.housed("kind k;film f parts 1 is k 1;").sofa(1, rule));
        }
        for (int rule : new int[] {-1, 3, 4, LEAST, MOST}) {
            none("rule " + rule, full.sofa(1, rule));
        }
        FourOnOne one = Due.housed(ONE);
        due.is("one alone", one.sofa(1, 0), 0);
        none("a second", one.sofa(2, 0));
        none("both", one.sofa(3, 0));
        due.by("of all FILMS (SEEN or not)");
        for (int k = 0; k < 9; k++) {
            one.show(0, 0);
        }
        for (int rule = 0; rule <= 2; rule++) {
            due.is("all parts are seen, rule " + rule, one.sofa(1, rule), 0);
        }
    }

    private static void sofaLike() {
        // Of f, g, h, i. p: 1 8 8 0; q: 9 4 4 2; r: 1 1 1 9; together 11 13 13 11; the least 1 1 1 0; firsts g, f, i.
        FourOnOne x = Due.housed("kind a;kind b;kind c;kind d;film f parts 1 is a 1;film g parts 1 is b 1;film h parts 1 is c 1;"
            + "film i parts 1 is d 1;person p at 0 to 0;person q at 0 to 0;person r at 0 to 0;likes p a 1;likes p b 8;likes p c 8;"
            + "likes q a 9;likes q b 4;likes q c 4;likes q d 2;likes r a 1;likes r b 1;likes r c 1;likes r d 9;");
        due.by("0: the most WORTH for all together; of like ones the first");
        int[] together = {1, 0, 1, 3, 1, 3, 1};
        due.by("1: the greatest of the least WORTH of any; of like ones the first");
        int[] least = {1, 0, 1, 3, 0, 3, 0};
        due.by("2: the one that most of them would have first (each the FILM of most WORTH to him, of like ones the first)");
        int[] firsts = {1, 0, 0, 3, 1, 0, 0};
        for (int people = 1; people <= 7; people++) {
            due.is("together " + people, x.sofa(people, 0), together[people - 1]);
            due.is("least " + people, x.sofa(people, 1), least[people - 1]);
            due.is("firsts " + people, x.sofa(people, 2), firsts[people - 1]);
        }
        // Nobody likes any: all films are worth 0.
        FourOnOne y = Due.housed(FULL);
        for (int rule = 0; rule <= 2; rule++) {
            due.is("all are like, rule " + rule, y.sofa(15, rule), 0);
        }
    }

    private static void share() {
        due.by("The SHARE of a PERSON; NONE when there is none such, or none saw any");
        String house = "kind k;film f parts 9 is k 1;person p at 0 to 23;person q at 0 to 23;person r at 0 to 23;strange 100;price ";
        FourOnOne x = Due.housed(house + "10;");
        none("none saw any", x.share(0));
        due.is("a stranger does not count", x.chance(1), 1);
        x.undo();
        x.show(1, 0);
        due.is("one saw one", x.share(1), 10);
        due.is("who saw none", x.share(0) + x.share(2), 0);
        for (int person : new int[] {-1, 3, 5, LEAST, MOST}) {
            none("person " + person, x.share(person));
        }
        due.by("the price by the HOURS in which each saw (floor), what is left to the first who saw most");
        x.show(0, 0);
        x.show(2, 0);
        // 3, 3, 3 and 1 that is left.
        due.is("p, the first", x.share(0) * 100 + x.share(1) * 10 + x.share(2), 433);
        x.show(2, 0);
        // 2 (and a half), 2, 5: 1 is left.
        due.is("r, who saw most", x.share(0) * 100 + x.share(1) * 10 + x.share(2), 226);
        x.show(1, 0);
        // 2, 4, 4 of 5.
        due.is("nothing is left", x.share(0) * 100 + x.share(1) * 10 + x.share(2), 244);
        FourOnOne y = Due.housed(house + "1;");
        y.show(0, 0);
        y.show(1, 0);
        due.is("1 for two: p", y.share(0) * 10 + y.share(1), 10);
        FourOnOne z = Due.housed(house + "0;");
        z.show(0, 0);
        due.is("no price", z.share(0), 0);
    }

    private static void shareMost() {
        due.by("HOURS in which he saw (9999 at most)");
        FourOnOne x = Due.housed("person p at 0 to 0;person q at 0 to 0;person r at 0 to 0;person s at 0 to 0;person t at 0 to 0;price 999;");
        int[] image = new int[19];
        for (int person = 0; person < 5; person++) {
            image[3 + 3 * person + 1] = 39;
            image[3 + 3 * person + 2] = 15;
        }
        due.is("9999 each", Due.on(x, Due.checked(image)), true);
        due.is("together", x.has(7), 49995);
        // 199.8 each: 4 are left.
        due.is("p", x.share(0), 203);
        for (int person = 1; person < 5; person++) {
            due.is("the others", x.share(person), 199);
        }
        image[5] = 14;
        Due.on(x, Due.checked(image));
        due.is("q, if p saw one less", x.share(1), 203);
        due.is("p", x.share(0), 199);
    }

    private static final String FEW = "kind k;film f parts 2 is k 2;film g parts 1 is k 1;person p at 0 to 23;";

    private static void tell() {
        due.by("1 to 16 rows of three bytes: how many rows");
        FourOnOne x = Due.housed(FEW);
        for (int rows : new int[] {1, 2, 15, 16}) {
            due.is(rows + " rows", Due.tell(x, new int[3 * rows]), rows);
            due.is("has", x.has(9), rows);
            due.is("the tape went", x.end(1), false);
        }
        due.by("rows of HOUR AHEAD (0 .. 23), FILM, 1 if any sees a part of it in it, else 0");
        int[][] good = {{0, 0, 0}, {23, 1, 1}, {0, 1, 0, 23, 0, 1}};
        for (int[] rows : good) {
            due.is("told", Due.tell(x, rows), rows.length / 3);
        }
        due.by("NONE, refused (1), all staying, when it is none such");
        int[][] bad = {{}, {0}, {0, 0}, {0, 0, 0, 0}, {0, 0, 0, 0, 0}, new int[47], new int[49], new int[50], new int[51], new int[1600],
            {24, 0, 0}, {25, 0, 0}, {255, 0, 0}, {0, 2, 0}, {0, 3, 0}, {0, 255, 0}, {0, 0, 2}, {0, 0, 255}, {0, 0, 0, 24, 0, 0},
            {0, 0, 0, 0, 2, 0}, {0, 0, 0, 0, 0, 2}, {24, 0, 0, 0, 0, 0}};
        for (int[] rows : bad) {
            FourOnOne y = AccountBoundsTest.stood();
            String before = Whole.of(y);
            String call = "tell of " + rows.length + " bytes";
            none(call, Due.tell(y, rows));
            due.is(call + " refused", y.status(1), 1);
            due.stays(call, y, before);
            due.is(call + ": the tape went", y.end(1), false);
        }
        none("without films", Due.tell(new FourOnOne(), 0, 0, 0));
        FourOnOne full = Due.housed(FULL);
        due.is("the last film", Due.tell(full, 0, 7, 0), 1);
        none("behind the last", Due.tell(full, 0, 8, 0));
    }

    private static void sets(String told, FourOnOne x, int count, int all, int some) {
        due.is(told + ": sets", x.pressed(0), count);
        due.is(told + ": in all", x.pressed(1), all);
        due.is(told + ": in some", x.pressed(2), some);
    }

    private static void pressed() {
        due.by("By what is TOLD (all sets, if nothing is): how many sets, who PRESSES in all of them (1; 0 without), in some (2)");
        FourOnOne x = Due.housed(FEW);
        sets("nothing", x, 2, 0, 1);
        x.hours(3);
        // The account has seen all. He sees f again, if he presses: in hours 0 and 1; in hour 2 g.
        Due.tell(x, 0, 0, 1);
        sets("he presses", x, 1, 1, 1);
        Due.tell(x, 0, 0, 0);
        sets("he does not", x, 1, 0, 0);
        Due.tell(x, 0, 0, 1, 0, 0, 0);
        sets("none is so", x, 0, 0, 0);
        Due.tell(x, 2, 1, 1, 0, 1, 0, 2, 1, 1);
        sets("in any order, twice", x, 1, 1, 1);
        Due.tell(x, 3, 0, 0, 3, 1, 0);
        sets("behind all parts", x, 2, 0, 1);
        due.by("1 if any of the PEOPLE sees a part of it in it, else 0");
        Due.tell(x, 23, 0, 0, 23, 1, 0);
        sets("in the last hour", x, 2, 0, 1);
        Due.tell(x, 23, 0, 1);
        sets("not in the last hour", x, 0, 0, 0);
        due.by("NONE for others");
        for (int what : new int[] {-1, 3, 4, LEAST, MOST}) {
            none("what " + what, x.pressed(what));
        }
        due.by("0 is the one that comes now");
        FourOnOne y = Due.housed("kind k;film f parts 1 is k 1;person p at 5 to 5;");
        Due.tell(y, 5, 0, 1);
        sets("hour 5 from hour 0 on", y, 2, 0, 1);
        y.hours(5);
        sets("hour 10 from hour 5 on", y, 0, 0, 0);
        Due.tell(y, 0, 0, 1);
        sets("hour 5 itself", y, 2, 0, 1);
        Due.tell(y, 1, 0, 0, 0, 0, 1, 23, 0, 0);
        sets("and the next ones", y, 2, 0, 1);
    }

    private static void pressedLastDay() {
        due.by("or when a row's HOUR can't pass any more (DAY 999)");
        FourOnOne x = Due.housed(FEW);
        int[] image = new int[3 + 2 * 4 + 3 + 1];
        image[0] = 3;
        image[1] = 231;
        for (int hour : new int[] {23, 22, 12, 0}) {
            image[2] = hour;
            Due.on(x, Due.checked(image));
            due.is("day 999", x.has(4) * 100 + x.has(5), 99900 + hour);
            Due.tell(x, 23 - hour, 0, 0);
            for (int what = 0; what <= 2; what++) {
                none("hour 23 can't pass", x.pressed(what));
            }
            Due.tell(x, 0, 1, 0, 23 - hour, 0, 0, 0, 1, 0);
            none("one row is enough", x.pressed(0));
            if (hour < 23) {
                Due.tell(x, 22 - hour, 1, 0, 0, 1, 0);
                due.is("hour 22 can", x.pressed(0) >= 0, true);
            }
            due.is("the rows stay", x.has(9) >= 2, true);
        }
        FourOnOne y = Due.housed(FEW);
        image[2] = 23;
        Due.on(y, Due.checked(image));
        sets("nothing is told, no hour has to pass", y, 2, 0, 1);
        Due.tell(y, 0, 0, 0);
        none("hour 23 can't pass", y.pressed(0));
    }

    private static void pressedOfFive() {
        due.by("sets of who PRESSES from now on by which all is so");
        FourOnOne x = Due.housed(FULL);
        sets("nothing is told", x, 32, 0, 31);
        Due.tell(x, 0, 0, 1);
        sets("all see g", x, 32, 0, 31);
        Due.tell(x, 0, 7, 1);
        sets("none sees n", x, 0, 0, 0);
        // All of the account's is seen: f is seen by those who press alone.
        FourOnOne y = Due.housed("kind k;film f parts 1 is k 1;person p at 0 to 0;person q at 1 to 1;person r at 2 to 2;"
            + "person s at 3 to 3;person t at 4 to 4;");
        y.hours(24);
        Due.tell(y, 0, 0, 1, 1, 0, 1, 2, 0, 1, 3, 0, 1, 4, 0, 1);
        sets("all five", y, 1, 31, 31);
        Due.tell(y, 0, 0, 1, 4, 0, 1);
        sets("p and t", y, 8, 17, 31);
        Due.tell(y, 0, 0, 1, 1, 0, 0, 2, 0, 0);
        sets("p, not q, not r", y, 4, 1, 25);
        Due.tell(y, 0, 0, 0, 1, 0, 0, 2, 0, 0, 3, 0, 0, 4, 0, 0);
        sets("nobody", y, 1, 0, 0);
        Due.tell(y, 5, 0, 1);
        sets("none is so", y, 0, 0, 0);
    }
}
