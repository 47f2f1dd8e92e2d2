/** Terms IV, promises 32 to 35: each sentence that names a boundary, on both sides of it. */
public final class QuestionBoundsTest {
    private static final Due due = new Due("QuestionBoundsTest");
    private static final int LEAST = Integer.MIN_VALUE;
    private static final int MOST = Integer.MAX_VALUE;
    private static final long NOTHING = FourOnOne.NOTHING;
    private static final String FULL = AccountBoundsTest.FULL;
    private static final String THREE = "kind a;kind b;film f parts 2 is a 5;film g parts 3 is b 4 a 2;film h parts 9 is b 6;"
        + "person p at 0 to 23;person q at 0 to 23;likes p a 9;likes q b 5;press q;";

    public static void main(String[] args) {
        firstAndLast();
        often();
        total();
        mostAndLeast();
        weights();
        facts();
        fault1();
        fault1AtTheTapesEnd();
        fault4();
        asked();
        full();
        imageWritten();
        octets();
        on();
        onBounds();
        onFull();
        onRefused();
        onForgets();
        due.end();
    }

    private static void is(FourOnOne x, int person, String text, long want) {
        due.is(text, Due.ask(x, person, text), want);
        due.is(text + " fault", x.fault(0), 0);
        due.is(text + " place", x.fault(1), -1);
        due.is(text + ": the tape went", x.end(1), false);
    }

    /** The ^ in the text marks the place of the fault. */
    private static void bad(int fault, String marked) {
        FourOnOne x = Due.housed(THREE);
        due.is(marked, Due.ask(x, 0, marked.replace("^", "")), NOTHING);
        due.is(marked + " fault", x.fault(0), fault);
        due.is(marked + " place", x.fault(1), marked.indexOf('^'));
        due.is(marked + " refused", x.status(1), 0);
        due.is(marked + ": the tape went", x.end(1), false);
    }

    private static void firstAndLast() {
        due.by("first TEST, last TEST (the first, the last FILM for which it holds)");
        FourOnOne x = Due.housed(THREE);
        is(x, 0, "first all", 0);
        is(x, 0, "last all", 2);
        is(x, 0, "first number>0", 1);
        is(x, 0, "last number<2", 1);
        is(x, 0, "first number>1", 2);
        is(x, 0, "last number<1", 0);
        due.by("NONE of first, last, when its TEST holds for none");
        is(x, 0, "first number>2", -1);
        is(x, 0, "last number>2", -1);
        is(x, 0, "first not all", -1);
        FourOnOne none = Due.housed("kind k;person p at 0 to 0;");
        is(none, 0, "first all", -1);
        is(none, 0, "last all", -1);
    }

    private static void often() {
        due.by("often TEST (for how many)");
        FourOnOne x = Due.housed(THREE);
        is(x, 0, "often all", 3);
        is(x, 0, "often not all", 0);
        is(x, 0, "often parts>2", 2);
        is(x, 0, "often parts=2 or parts=3 or parts=2", 2);
        is(Due.housed("kind k;person p at 0 to 0;"), 0, "often all", 0);
    }

    private static void total() {
        due.by("total SUM (of all together, not held)");
        FourOnOne x = Due.housed(THREE);
        is(x, 0, "total 1000*1000", 3000000);
        is(x, 0, "total 1000*1000+1", 3000000);
        is(x, 0, "total 0-1000*1000", -3000000);
        is(x, 0, "total 0-9999*9999-1", -3000000);
        is(x, 0, "total 999*1001", 2999997);
        is(x, 0, "total number-1", 0);
        is(Due.housed(FULL), 4, "total 9999*9999", 8000000);
        is(Due.housed("kind k;person p at 0 to 0;"), 0, "total 1000", 0);
    }

    private static void mostAndLeast() {
        due.by("most SUM, least SUM (the greatest, the least of all; 0 without FILMS)");
        FourOnOne x = Due.housed(THREE);
        is(x, 0, "most parts", 9);
        is(x, 0, "least parts", 2);
        is(x, 0, "most 0-parts", -2);
        is(x, 0, "least 0-parts", -9);
        is(x, 0, "most 1000*1000*number", 1000000);
        is(x, 0, "least 0-1000*1000*number", -1000000);
        is(x, 0, "most 0-1000*1000", -1000000);
        is(x, 0, "least 1000*1000", 1000000);
        FourOnOne none = Due.housed("kind k;person p at 0 to 0;");
        is(none, 0, "most 5", 0);
        is(none, 0, "least 5", 0);
        is(none, 0, "most 0-5", 0);
        is(none, 0, "least 0-5", 0);
    }

    private static void weights() {
        due.by("how much it is of the KIND of that number, 0 of those that there are not");
        FourOnOne x = Due.housed(THREE);
        is(x, 0, "total weight 0", 7);
        is(x, 0, "total weight 1", 10);
        is(x, 0, "total weight 2", 0);
        is(x, 0, "total weight 5", 0);
        is(x, 0, "total weight 6", 0);
        is(x, 0, "total weight 9999", 0);
        is(x, 0, "total weight (0-1)", 0);
        is(x, 0, "total weight (0-1000*1000)", 0);
        is(x, 0, "total weight (1000*1000)", 0);
        // A house before had a third kind.
        Due.house(x, "kind a;kind b;kind c;film f parts 1 is c 9;person p at 0 to 0;");
        Due.house(x, "kind a;kind b;film f parts 1 is a 1;person p at 0 to 0;");
        is(x, 0, "total weight 2", 0);
        due.by("weight PART");
        x = Due.housed(THREE);
        is(x, 0, "total weight 0+1", 10);
        is(x, 0, "total weight 0*2", 14);
        is(x, 0, "total weight (0+1)", 10);
        is(x, 0, "total 2*weight min(1,5)", 20);
        is(x, 0, "total weight weight 1", 5);
    }

    private static void facts() {
        due.by("its SCORE, parts SEEN by his PROFILE; its WORTH to him; PART: number; parts; seen; score; worth; hour");
        FourOnOne x = Due.housed(THREE);
        is(x, 0, "total seen", 0);
        is(x, 0, "most score", 1);
        is(x, 0, "total hour", 0);
        x.hours(1);
        // Both see f, each by his profile, of p the account's: a is 5.
        is(x, 0, "total seen", 1);
        is(x, 0, "total score", 26 + 11 + 1);
        is(x, 1, "total score", 26 + 11 + 1);
        is(x, 0, "total worth", 45 + 18);
        is(x, 1, "total worth", 20 + 30);
        is(x, 0, "total hour", 3);
        x.press(0, 1);
        is(x, 0, "total seen", 0);
        is(x, 0, "total score", 3);
        x.hours(22);
        is(x, 0, "most hour", 23);
        x.hours(1);
        is(x, 0, "most hour", 0);
    }

    private static void fault1() {
        due.by("1 as in I (an unknown word at its first byte; what stands behind it, too)");
        bad(1, "^firsts all");
        bad(1, "^firs all");
        bad(1, "^firstall");
        bad(1, "^all");
        bad(1, "^kind k;");
        bad(1, "^1");
        bad(1, "^(");
        bad(1, "total ^abcdefghij");
        bad(1, "total ^taste");
        bad(1, "total 1+^k");
        bad(1, "first all^;");
        bad(1, "first all ^first all");
        bad(1, "first all ^x");
        bad(1, "first all ^5");
        bad(1, "total 1 ^1");
        bad(1, "total 1 ^11111");
        bad(1, "total 1^)");
        bad(1, "total 1^=1");
        bad(1, "first 1^");
        bad(1, "total weight ^weigh");
        bad(1, "total weight^0");
        bad(1, "total 1234^5");
        bad(1, "total 0000^0");
        bad(1, "total weight 1234^5");
        is(Due.housed(THREE), 0, "total 9999", 29997);
        is(Due.housed(THREE), 0, "\n total \n 1 \n", 3);
        due.by("at the text's length, if it ends too soon");
        for (String cut : new String[] {"", "first", "last", "often", "total", "most", "least", "first not", "first [", "first [all",
            "first 1", "first 1<", "first all or", "first all and", "total (", "total (1", "total 1+", "total 1-", "total 1*",
            "total 1/", "total weight", "total weight (", "total min", "total min(", "total min(1", "total min(1,", "total min(1,2"}) {
            bad(1, cut + "^");
            bad(1, cut + " \n ^");
        }
    }

    private static void fault1AtTheTapesEnd() {
        due.by("at the text's length, if it ends too soon");
        bad(1, " ".repeat(1600) + "^");
        bad(1, " ".repeat(1595) + "total^");
        bad(1, " ".repeat(1588) + "total weight^");
        bad(1, " ".repeat(1593) + "total(^");
        bad(1, " ".repeat(1599) + "^t");
        bad(1, " ".repeat(1589) + "total 1234^5");
        FourOnOne x = Due.housed(THREE);
        is(x, 0, " ".repeat(1593) + "total 7", 21);
        is(x, 0, " ".repeat(1591) + "first all", 0);
        is(x, 0, "total 1" + "+1".repeat(796), 3 * 797);
    }

    private static void fault4() {
        due.by("4 the 7th of ( [ not weight that is open at once, at it");
        FourOnOne x = Due.housed(THREE);
        is(x, 0, "first " + "not ".repeat(6) + "all", 0);
        bad(4, "first " + "not ".repeat(6) + "^not all");
        is(x, 0, "first " + "[".repeat(6) + "all" + "]".repeat(6), 0);
        bad(4, "first " + "[".repeat(6) + "^[all");
        is(x, 0, "total " + "(".repeat(6) + "1" + ")".repeat(6), 3);
        bad(4, "total " + "(".repeat(6) + "^(1");
        is(x, 0, "total " + "min(1,".repeat(6) + "1" + ")".repeat(6), 3);
        bad(4, "total " + "min(1,".repeat(6) + "min^(1,1");
        is(x, 0, "total " + "weight ".repeat(6) + "9", 7);
        bad(4, "total " + "weight ".repeat(6) + "^weight 9");
        bad(4, "total " + "weight ".repeat(6) + "^(9)");
        bad(4, "total " + "weight ".repeat(6) + "min^(9,9)");
        is(x, 0, "first not [not weight (weight 9)=9]", -1);
        bad(4, "first not [not weight (weight ^(9))=9]");
        bad(4, "first not [not weight (weight ^weight 9)=9]");
        due.by("(not until its FACT, weight until its PART ends)");
        is(x, 0, "often all" + " and not not all".repeat(10), 3);
        is(x, 0, "total 0" + "+weight 0".repeat(20), 140);
        is(x, 0, "total 0" + "+weight (0)".repeat(20), 140);
        is(x, 0, "total 0" + "+weight min(0,1)".repeat(20), 140);
        is(x, 0, "total weight weight weight weight weight weight 9*weight weight weight weight weight weight 9", 25 + 4);
        is(x, 0, "often not not not not not weight 9<weight 0", 1);
        bad(4, "often not not not not not weight 9<weight ^(0)");
        bad(1, "total weight weight weight weight weight weight 9^(");
        bad(1, "total weight weight weight weight weight weight ^not");
        due.by("4 the 7th of ( [ not weight that is open at once");
        is(x, 0, "total 1+2*(1+2*(1+2*(1+2*(1+2*(1+2*(3))))))", 3 * 255);
        is(x, 0, "often all or all and [all or all and [all or all and [all or all and [all or all and 1+2*weight (0)>10]]]]", 3);
        is(x, 0, "often not [all and not [all and not all or 1+2*max(0,weight 0)=11]]", 1);
    }

    private static void asked() {
        due.by("NOTHING with a FAULT, or (the tape goes, nothing else is done) when there is none such");
        for (int person : new int[] {-1, 2, 5, LEAST, MOST}) {
            FourOnOne x = AccountBoundsTest.stood();
            Due.house(x, "price 1000;");
            String before = Whole.of(x);
            due.is("ask " + person, Due.ask(x, person, "often all"), NOTHING);
            due.is("the fault stays", x.fault(0) * 10 + x.fault(1), 26);
            due.is("the tape went", x.end(1), false);
            due.is("ask " + person, Due.ask(x, person, "#"), NOTHING);
            due.is("the fault stays", x.fault(0) * 10 + x.fault(1), 26);
            due.is("the tape went", x.end(1), false);
            due.is("refused", x.status(1), 1);
            due.stays("ask " + person, x, before);
        }
        FourOnOne x = AccountBoundsTest.stood();
        String before = Whole.of(x);
        due.is("a fault", Due.ask(x, 0, "total #"), NOTHING);
        due.stays("a fault", x, before);
        due.is("no fault", Due.ask(x, 1, "total parts"), 5);
        due.stays("no fault", x, before);
        due.is("none refused", x.status(0) + x.status(1), 0);
    }

    private static void full() {
        due.by("A QUESTION of a PERSON is a text, of all FILMS");
        FourOnOne x = Due.housed(FULL);
        is(x, 4, "often all", 8);
        is(x, 4, "last all", 7);
        is(x, 4, "total number", 28);
        is(x, 4, "total weight 5", 9 + 9 + 1);
        is(x, 4, "most worth", 486);
        is(x, 4, "last worth=9", 7);
        x.show(4, 7);
        is(x, 4, "last seen=1", 7);
        is(x, 4, "most score", 10);
        is(x, 3, "last seen=1", -1);
        due.is("none behind the last", Due.ask(x, 5, "often all"), NOTHING);
    }

    private static void same(String call, FourOnOne x, int... want) {
        due.is(call + ": bytes", x.image(), want.length);
        for (int k = 0; k < want.length; k++) {
            due.is(call + ": byte " + k, x.octet(k), want[k]);
        }
        due.is(call + ": none behind", x.octet(want.length), -1);
    }

    private static void imageWritten() {
        due.by("DAY (two bytes, the higher first), HOUR");
        // 53: 159 + 0, 477 + 0 is 226, 678 + 0 is 176.
        same("no house", new FourOnOne(), 0, 0, 0, 176);
        FourOnOne x = new FourOnOne();
        int[] days = {0, 1, 255, 256, 999};
        for (int day : days) {
            int[] image = Due.checked(day / 256, day % 256, 22, 0);
            due.is("on", Due.on(x, image), true);
            same("day " + day, x, image);
            x.hours(1);
            same("hour 23", x, Due.checked(day / 256, day % 256, 23, 0));
            int next = x.hours(1);
            due.is("the next day", next, day == 999 ? -1 : 0);
            if (day < 999) {
                same("hour 0", x, Due.checked((day + 1) / 256, (day + 1) % 256, 0, 0));
            }
        }
        due.by("each TASTE (two bytes), parts SEEN of each FILM; for each PERSON 1 if he PRESSES, else 0, HOURS in which he saw (two bytes)");
        FourOnOne y = Due.housed("kind a;kind b;film f parts 9 is a 5;person p at 0 to 23;person q at 0 to 0;press q;learns 256;");
        y.show(0, 0);
        y.show(1, 0);
        y.show(1, 0);
        same("tastes 256 and 512", y, Due.checked(0, 0, 0, 1, 0, 0, 0, 1, 0, 0, 0, 0, 0, 2, 0, 0, 0, 2, 0, 0, 1, 1, 0, 2, 0));
        y.show(1, 0);
        y.show(1, 0);
        y.press(0, 1);
        y.press(1, 0);
        same("taste 999", y, Due.checked(0, 0, 0, 1, 0, 0, 0, 1, 0, 0, 0, 0, 0, 3, 231, 0, 0, 4, 1, 0, 1, 0, 0, 4, 0));
        due.by("last a byte: all ahead from 53 on, c = (3 c + it) mod 251");
        // 159, 477 is 226, 678 + 23 is 199, 597 is 95.
        FourOnOne z = new FourOnOne();
        z.hours(23);
        same("hour 23", z, 0, 0, 23, 199);
        // 159 + 3 is 162, 486 + 231 is 717 or 215, 645 + 0 is 143.
        Due.on(z, 3, 231, 0, 143);
        same("day 999", z, 3, 231, 0, 143);
    }

    private static void octets() {
        due.by("Byte k of the latest image(); NONE when there is none such");
        FourOnOne x = new FourOnOne();
        for (int k : new int[] {0, 1, -1, 3, 138, LEAST, MOST}) {
            due.is("ahead of any " + k, x.octet(k), -1);
        }
        x.image();
        due.is("the last", x.octet(3), 176);
        for (int k : new int[] {4, 5, -1, 138, 139, LEAST, MOST}) {
            due.is("none such " + k, x.octet(k), -1);
        }
        x.hours(5);
        due.is("the latest is as it was", x.octet(2), 0);
        Due.house(x, FULL);
        due.is("it is as it was", x.octet(3), 176);
        due.is("none behind it", x.octet(4), -1);
        due.is("the greatest", x.image(), 3 + 6 * (12 + 8) + 15 + 1);
        due.is("its last", x.octet(138) >= 0, true);
        due.is("none behind it", x.octet(139), -1);
        Due.house(x, "");
        x.image();
        due.is("none of what was longer", x.octet(4), -1);
    }

    private static final String SMALL = "kind k;film f parts 2 is k 5;person p at 0 to 23;";

    private static void on() {
        due.by("AN IMAGE of this HOUSE: true, all is as it tells");
        FourOnOne x = Due.housed(SMALL);
        due.is("on", Due.on(x, Due.checked(3, 231, 23, 3, 231, 2, 3, 230, 1, 1, 39, 15, 0)), true);
        due.is("day, hour", x.has(4) * 100 + x.has(5), 99923);
        due.is("tastes", x.taste(-1, 0) * 1000 + x.taste(0, 0), 999998);
        due.is("seen", x.seen(-1, 0) * 10 + x.seen(0, 0), 21);
        due.is("presses", x.person(0, 2), 1);
        due.is("hours", x.person(0, 3), 9999);
        due.is("none refused", x.status(5), 0);
        due.is("the tape went", x.end(1), false);
        due.is("nothing of it", Due.on(x, Due.checked(new int[13])), true);
        due.is("as at first", x.has(4) + x.has(5) + x.has(6) + x.has(7) + x.taste(-1, 0) + x.taste(0, 0) + x.seen(-1, 0) + x.seen(0, 0), 0);
        due.is("without a house", Due.on(new FourOnOne(), 0, 0, 0, 176), true);
    }

    private static void onBounds() {
        due.by("(DAY 999, HOUR 23, TASTES 999, HOURS 9999 at most; no more parts SEEN than the FILM has)");
        int[][] twos = {{0, 0, 1}, {0, 255, 1}, {0, 256, 1}, {0, 999, 1}, {0, 1000, 0}, {0, 1024, 0}, {0, 65535, 0}, {3, 999, 1},
            {3, 1000, 0}, {3, 65535, 0}, {6, 999, 1}, {6, 1000, 0}, {6, 65535, 0}, {10, 9999, 1}, {10, 10000, 0}, {10, 65535, 0}};
        for (int[] row : twos) {
            int[] bytes = new int[13];
            bytes[row[0]] = row[1] / 256;
            bytes[row[0] + 1] = row[1] % 256;
            due.is("at " + row[0] + ": " + row[1], Due.on(Due.housed(SMALL), Due.checked(bytes)), row[2] == 1);
        }
        int[][] ones = {{2, 23, 1}, {2, 24, 0}, {2, 25, 0}, {2, 255, 0}, {5, 2, 1}, {5, 3, 0}, {5, 255, 0}, {8, 2, 1}, {8, 3, 0},
            {8, 255, 0}, {9, 1, 1}, {9, 2, 0}, {9, 255, 0}};
        for (int[] row : ones) {
            int[] bytes = new int[13];
            bytes[row[0]] = row[1];
            due.is("at " + row[0] + ": " + row[1], Due.on(Due.housed(SMALL), Due.checked(bytes)), row[2] == 1);
        }
        // The parts of each film for itself.
        String two = "kind k;film f parts 1 is k 5;film g parts 9 is k 1;";
        due.is("1 and 9", Due.on(Due.housed(two), Due.checked(0, 0, 0, 0, 0, 1, 9, 0)), true);
        due.is("2 and 9", Due.on(Due.housed(two), Due.checked(0, 0, 0, 0, 0, 2, 9, 0)), false);
        due.is("1 and 10", Due.on(Due.housed(two), Due.checked(0, 0, 0, 0, 0, 1, 10, 0)), false);
    }

    /** All of the greatest house at its most, and one more at each place. */
    private static void onFull() {
        due.by("for each PROFILE (the account's, then the PEOPLE's) each TASTE (two bytes), parts SEEN of each FILM");
        int[] bytes = new int[139];
        bytes[0] = 3;
        bytes[1] = 231;
        bytes[2] = 23;
        int at = 3;
        for (int profile = 0; profile < 6; profile++) {
            for (int kind = 0; kind < 6; kind++) {
                bytes[at++] = 3;
                bytes[at++] = 231 - profile;
            }
            for (int film = 0; film < 8; film++) {
                bytes[at++] = film == 7 ? 1 : 9;
            }
        }
        for (int person = 0; person < 5; person++) {
            bytes[at++] = 1;
            bytes[at++] = 39;
            bytes[at++] = 15 - person;
        }
        due.is("all places", at, 138);
        FourOnOne x = Due.housed(FULL);
        int[] image = Due.checked(bytes);
        due.is("on", Due.on(x, image), true);
        for (int person = -1; person < 5; person++) {
            for (int kind = 0; kind < 6; kind++) {
                due.is("taste " + person + " " + kind, x.taste(person, kind), 998 - person);
            }
            for (int film = 0; film < 8; film++) {
                due.is("seen " + person + " " + film, x.seen(person, film), film == 7 ? 1 : 9);
            }
        }
        for (int person = 0; person < 5; person++) {
            due.is("presses " + person, x.person(person, 2), 1);
            due.is("hours " + person, x.person(person, 3), 9999 - person);
        }
        due.is("nothing is suggested", x.suggest(4), -1);
        same("the same again", x, image);
        due.by("false, refused (5), when it is none");
        // One more at each place that is neither a taste's nor hours', the last byte being right.
        for (int k = 2; k < 138; k++) {
            boolean taste = k < 123 && k > 2 && (k - 3) % 20 < 12;
            boolean hours = k >= 123 && (k - 123) % 3 != 0;
            if (!taste && !hours) {
                FourOnOne y = Due.housed(FULL);
                int[] more = bytes.clone();
                more[k]++;
                due.is("one more at " + k, Due.on(y, Due.checked(more)), false);
                due.is("refused", y.status(5), 1);
            }
        }
        for (int k = 3; k < 123; k++) {
            if ((k - 3) % 20 < 12 && (k - 3) % 2 == 0) {
                due.is("taste 1000 at " + k, Due.on(Due.housed(FULL), with(with(bytes, k, 3), k + 1, 232)), false);
                due.is("taste 999 at " + k, Due.on(Due.housed(FULL), with(with(bytes, k, 3), k + 1, 231)), true);
            }
        }
        for (int k = 123; k < 138; k += 3) {
            due.is("10000 hours at " + k, Due.on(Due.housed(FULL), with(with(bytes, k + 1, 39), k + 2, 16)), false);
            due.is("9999 hours at " + k, Due.on(Due.housed(FULL), with(with(bytes, k + 1, 39), k + 2, 15)), true);
        }
    }

    private static void onRefused() {
        due.by("false, refused (5), when it is none, all staying");
        FourOnOne model = AccountBoundsTest.stood();
        int[] now = Due.image(model);
        int[][] bad = {{}, {0}, java.util.Arrays.copyOf(now, now.length - 1), java.util.Arrays.copyOf(now, now.length + 1),
            java.util.Arrays.copyOfRange(now, 1, now.length), new int[now.length], new int[1600],
            Due.checked(java.util.Arrays.copyOf(now, now.length - 1)), Due.checked(java.util.Arrays.copyOf(now, now.length + 1)),
            Due.checked(0, 0, 0, 0), with(now, 2, 24), with(now, 3, 4), with(now, now.length - 2, 255)};
        for (int k = 0; k < bad.length; k++) {
            FourOnOne x = AccountBoundsTest.stood();
            String before = Whole.of(x);
            int more = k == bad.length - 1 ? 1 : 0;
            due.is("image " + k, Due.on(x, bad[k]), more == 1);
            if (more == 0) {
                due.stays("image " + k, x, before);
                due.is("refused", x.status(5), 1);
            }
            due.is("the tape went", x.end(1), false);
        }
        due.by("last a byte");
        // Each other last byte is wrong, and each byte ahead of it is in it.
        for (int last = 0; last < 256; last++) {
            FourOnOne x = new FourOnOne();
            due.is("last byte " + last, Due.on(x, 0, 1, 2, last), last == Due.checked(0, 1, 2, 0)[3]);
        }
        for (int k = 0; k + 1 < now.length; k++) {
            int[] bytes = now.clone();
            bytes[k] ^= 1;
            FourOnOne x = AccountBoundsTest.stood();
            due.is("byte " + k, Due.on(x, bytes), false);
        }
    }

    private static int[] with(int[] image, int at, int there) {
        int[] bytes = image.clone();
        bytes[at] = there;
        return Due.checked(bytes);
    }

    private static void onForgets() {
        due.by("nothing is KEPT or can be undone");
        FourOnOne x = AccountBoundsTest.stood();
        int[] now = Due.image(x);
        due.is("kept", x.has(8) > 0, true);
        due.is("acts", x.has(10) > 0, true);
        due.is("on", Due.on(x, now), true);
        due.is("nothing kept", x.has(8), 0);
        due.is("none", x.kept(0, 0), -1);
        due.is("no act", x.has(10), 0);
        due.is("no undo", x.undo(), false);
        x.hours(1);
        due.is("one act", x.has(10), 1);
        due.is("undone", x.undo(), true);
        due.is("back to the image, no more", x.undo(), false);
        same("the image", x, now);
        due.is("nothing kept", x.has(8), 0);
    }
}
