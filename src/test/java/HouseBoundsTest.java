/** Terms I, promises 4 and 5: each sentence that names a boundary of a house's text, on both sides of it. */
public final class HouseBoundsTest {
    private static final Due due = new Due("HouseBoundsTest");
    private static final String K = "kind k;";
    private static final String P = "person p at 0 to 23;";

    public static void main(String[] args) {
        statements();
        counts();
        films();
        people();
        likes();
        presses();
        onceEach();
        numbers();
        defaults();
        lastCounts();
        facts();
        reckoning();
        names();
        ownWords();
        unlike();
        blanks();
        sideBySide();
        fault1();
        fault1AtTheTapesEnd();
        fault2();
        fault3();
        fault4();
        fault5();
        firstAlong();
        deep();
        house();
        faults();
        due.end();
    }

    private static FourOnOne good(String text, int statements) {
        FourOnOne x = new FourOnOne();
        due.is(text, Due.house(x, text), statements);
        due.is(text + " fault", x.fault(0), 0);
        due.is(text + " place", x.fault(1), -1);
        return x;
    }

    /** The ^ in the text marks the place of the fault. */
    private static void bad(int fault, String marked) {
        FourOnOne x = new FourOnOne();
        due.is(marked, Due.house(x, marked.replace("^", "")), -1);
        due.is(marked + " fault", x.fault(0), fault);
        due.is(marked + " place", x.fault(1), marked.indexOf('^'));
        due.is(marked + " refused", x.status(1), 1);
    }

    private static void statements() {
        due.by("A HOUSE is a text: { STATEMENT ; }");
        good("", 0);
        good(" ", 0);
        good("\n", 0);
        good("price 1;", 1);
        bad(1, "price 1^");
        bad(1, "^;");
        due.by("80 at most");
        good("price 1;".repeat(79), 79);
        good("price 1;".repeat(80), 80);
        good("price 1;".repeat(80) + "\n", 80);
        bad(5, "price 1;".repeat(80) + "^price 1;");
    }

    /** As many statements as told, each giving one letter's name. */
    private static String many(String head, int count, String tail) {
        StringBuilder text = new StringBuilder();
        for (int k = 0; k < count; k++) {
            text.append(head).append(' ').append((char) ('a' + k)).append(tail).append(';');
        }
        return text.toString();
    }

    private static void counts() {
        due.by("6 KINDS");
        FourOnOne x = good(many("kind", 6, ""), 6);
        due.is("kinds", x.has(0), 6);
        due.is("the 6th", x.letter(0, 5, 0), 6);
        bad(5, many("kind", 6, "") + "^kind g;");
        due.by("8 FILMS");
        String film = " parts 1 is k 1";
        x = good(K + many("film", 8, film), 9);
        due.is("films", x.has(1), 8);
        due.is("the 8th", x.letter(1, 7, 0), 8);
        bad(5, K + many("film", 8, film) + "^film i parts 1 is k 1;");
        due.by("5 PEOPLE");
        x = good(many("person", 5, " at 0 to 1"), 5);
        due.is("people", x.has(2), 5);
        due.is("the 5th", x.letter(2, 4, 0), 5);
        bad(5, many("person", 5, " at 0 to 1") + "^person f at 0 to 1;");
        due.by("5 one too many of a kind");
        // Each sort has its own count.
        String six = "kind ka;kind kb;kind kc;kind kd;kind ke;kind kf;";
        good(six + many("film", 5, " parts 1 is ka 1") + "person p at 0 to 1;", 12);
        bad(5, six + many("film", 5, " parts 1 is ka 1") + "person p at 0 to 1;^kind kg;");
    }

    private static void films() {
        due.by("1 .. 9 parts");
        due.is("1", good(K + "film f parts 1 is k 1;", 2).film(0, 0), 1);
        due.is("9", good(K + "film f parts 9 is k 1;", 2).film(0, 0), 9);
        bad(2, K + "film f parts ^0 is k 1;");
        bad(2, K + "film f parts ^10 is k 1;");
        due.by("KINDS, unlike ones, 1 .. 9");
        due.is("1", good(K + "film f parts 2 is k 1;", 2).film(0, 10), 1);
        due.is("9", good(K + "film f parts 2 is k 9;", 2).film(0, 10), 9);
        bad(2, K + "film f parts 2 is k ^0;");
        bad(2, K + "film f parts 2 is k ^10;");
        bad(3, K + "film f parts 2 is k 1 ^k 1;");
        bad(3, K + "kind l;film f parts 2 is k 1 l 1 ^k 1;");
        due.by("is NAME N { NAME N }");
        bad(1, K + "film f parts 2 is ^;");
        FourOnOne x = good(many("kind", 6, "") + "film x parts 2 is f 9 e 8 d 7 c 6 b 5 a 4;", 7);
        for (int kind = 0; kind < 6; kind++) {
            due.is("all six kinds, " + kind, x.film(0, 10 + kind), 4 + kind);
        }
        bad(3, many("kind", 6, "") + "film x parts 2 is a 1 b 1 c 1 d 1 e 1 f 1 ^a 1;");
        bad(3, many("kind", 6, "") + "film x parts 2 is a 1 b 1 c 1 d 1 e 1 f 1 ^g 1;");
    }

    private static void people() {
        due.by("HOURS of the day 0 .. 23, the second one no less");
        int[][] rows = {{0, 0}, {0, 23}, {23, 23}, {7, 7}, {7, 8}};
        for (int[] row : rows) {
            FourOnOne x = good("person p at " + row[0] + " to " + row[1] + ";", 1);
            due.is("from", x.person(0, 0), row[0]);
            due.is("to", x.person(0, 1), row[1]);
        }
        bad(2, "person p at ^24 to 24;");
        bad(2, "person p at 0 to ^24;");
        bad(2, "person p at 23 to ^24;");
        bad(2, "person p at 7 to ^6;");
        bad(2, "person p at 1 to ^0;");
        bad(2, "person p at 23 to ^22;");
    }

    private static void likes() {
        due.by("likes NAME NAME N (a PERSON, a KIND, 0 .. 9)");
        due.is("0", good(K + P + "likes p k 0;", 3).person(0, 10), 0);
        due.is("1", good(K + P + "likes p k 1;", 3).person(0, 10), 1);
        due.is("9", good(K + P + "likes p k 9;", 3).person(0, 10), 9);
        bad(2, K + P + "likes p k ^10;");
        bad(3, K + P + "likes ^k p 1;");
        bad(3, K + P + "likes p ^p 1;");
        due.by("the last one of these two counts; 0 without");
        FourOnOne x = good(K + "kind l;" + P + "person q at 0 to 1;likes p k 3;likes p l 4;likes q k 5;likes p k 0;likes q k 9;", 9);
        due.is("p k", x.person(0, 10), 0);
        due.is("p l", x.person(0, 11), 4);
        due.is("q k", x.person(1, 10), 9);
        due.is("q l", x.person(1, 11), 0);
    }

    private static void presses() {
        due.by("press NAME (a PERSON who has not: he presses from the beginning)");
        FourOnOne x = good(P + "person q at 0 to 1;person r at 0 to 1;press r;press p;", 5);
        due.is("p", x.person(0, 2), 1);
        due.is("q", x.person(1, 2), 0);
        due.is("r", x.person(2, 2), 1);
        due.is("two", x.has(6), 2);
        bad(3, P + "person q at 0 to 1;press p;press q;press ^p;");
        x = good(many("person", 5, " at 0 to 1") + "press a;press b;press c;press d;press e;", 10);
        due.is("all five", x.has(6), 5);
        bad(3, many("person", 5, " at 0 to 1") + "press a;press b;press c;press d;press e;press ^e;");
    }

    private static void onceEach() {
        due.by("learns SUM, fades SUM, may TEST (one each)");
        good("may all;fades 0;learns 0;", 3);
        bad(5, "learns 0;fades 0;may all;^learns 0;");
        bad(5, "learns 0;fades 0;may all;^fades 0;");
        bad(5, "learns 0;fades 0;may all;^may all;");
    }

    /** That a statement of a number goes from one bound to the other. */
    private static void from(String word, int least, int most) {
        due.by(word + " N (" + least + " .. " + most + ")");
        good(word + " " + least + ";", 1);
        good(word + " " + most + ";", 1);
        if (least > 0) {
            bad(2, word + " ^" + (least - 1) + ";");
        }
        bad(2, word + " ^" + (most + 1) + ";");
        bad(2, word + " ^9999;");
    }

    private static void numbers() {
        from("screens", 1, 5);
        from("price", 0, 999);
        from("bother", 0, 99);
        from("strange", 0, 100);
        due.by("N (1 to 4 digits)");
        good("price 1;", 1);
        good("price 0999;", 1);
        good("price 0000;", 1);
        bad(1, "price ^;");
        bad(1, "price 0000^0;");
        bad(1, "price 0099^9;");
        good("learns 9999;", 1);
        good("learns 0000;", 1);
        bad(1, "learns 9999^9;");
        bad(1, "learns 0000^0;");
    }

    private static final String THREE = "kind k;film f parts 9 is k 1;person p at 0 to 23;person q at 0 to 23;person r at 0 to 23;"
        + "person s at 0 to 23;person t at 0 to 23;";

    private static void defaults() {
        due.by("(5, 0, 0, 0 without)");
        FourOnOne x = good(THREE + "press t;", 8);
        due.is("screens", x.has(3), 5);
        due.is("all five see", x.hours(1), 5);
        due.is("no bother", x.show(4, 0), 0);
        due.is("no price", x.share(0), 0);
        // A seed whose first draw of 100 is 0: whoever is strange at all would come.
        x.seed(seedOfFirstDraw(0));
        due.is("no stranger", x.chance(1), 0);
    }

    static int seedOfFirstDraw(int draw) {
        int seed = 0;
        while ((1103515245L * seed + 12345) % 2147483648L / 64 % 100 != draw) {
            seed++;
        }
        return seed;
    }

    private static void lastCounts() {
        due.by("the last one of each counts");
        FourOnOne x = good(THREE + "screens 1;screens 3;screens 2;price 9;price 100;bother 7;bother 3;strange 100;strange 0;press t;", 17);
        due.is("screens", x.has(3), 2);
        due.is("two see", x.hours(1), 2);
        due.is("price", x.share(0), 50);
        due.is("bother", x.show(4, 0), -3);
        x.seed(seedOfFirstDraw(0));
        due.is("strange 0", x.chance(1), 0);
        FourOnOne y = good(THREE + "strange 0;strange 1;", 9);
        y.seed(seedOfFirstDraw(0));
        due.is("strange 1, drawn 0", y.chance(1), 1);
        y.seed(seedOfFirstDraw(1));
        due.is("strange 1, drawn 1", y.chance(1), 0);
        FourOnOne z = good(THREE + "strange 99;strange 100;", 9);
        z.seed(seedOfFirstDraw(99));
        due.is("strange 100, drawn 99", z.chance(1), 1);
    }

    private static void facts() {
        due.by("hour; in learns, fades: taste; in learns: weight; in may: parts; seen; score");
        good("learns hour+taste+weight;fades hour+taste;may hour+parts+seen+score>0;", 3);
        for (String word : "parts seen score number worth".split(" ")) {
            bad(1, "learns ^" + word + ";");
        }
        for (String word : "weight parts seen score number worth".split(" ")) {
            bad(1, "fades ^" + word + ";");
        }
        for (String word : "taste weight number worth".split(" ")) {
            bad(1, "may ^" + word + ">0;");
        }
    }

    /** That the test holds for a film of 3 parts, of which none is seen. */
    private static void holds(String test) {
        FourOnOne x = good(K + "film f parts 3 is k 2;person p at 0 to 23;may " + test + ";", 4);
        due.is(test, x.suggest(0), 0);
    }

    private static void reckoning() {
        due.by("All from the left on");
        holds("9-5-3=1");
        holds("9-5+3=7");
        holds("8/4*2=4");
        holds("8*4/3=10");
        holds("2+3*4=14");
        holds("2*3+4*5-6/4=25");
        due.by("/ gives the greatest whole number not above");
        holds("7/2=3");
        holds("8/2=4");
        holds("9/2=4");
        holds("0-(0-7)/2=4");
        holds("0-(0-8)/2=4");
        holds("0-(0-1)/9999=1");
        holds("0-7/(0-2)=4");
        holds("(0-7)/(0-2)=3");
        holds("1/2=0");
        due.by("by 0 it gives 0");
        holds("7/0=0");
        holds("0/0=0");
        holds("(0-7)/0=0");
        holds("7/(1-1)+5=5");
        due.by("each sum, difference, product above 10 to the 6 is that");
        holds("1000*1000=9999*9999");
        holds("999*1001+1=1000*1000");
        holds("999*1001+2=1000*1000");
        holds("999*1001<1000*1000");
        holds("1000*1000+1=1000*1000");
        holds("1000*1000+1-1<1000*1000");
        holds("1000*1000-(0-1)=1000*1000");
        holds("(0-1000)*(0-1001)=1000*1000");
        // What is behind is reckoned from the cut one: not 9999 * 9999 / 9999.
        holds("9999*9999/9999=100");
        due.by("below -10 to the 6 likewise");
        holds("0-1000*1000=(0-9999)*9999");
        holds("0-1000*1000-1=0-1000*1000");
        holds("0-1000*1000-1+1>0-1000*1000");
        holds("0-999*1001>0-1000*1000");
        holds("0-999*1001-1=0-1000*1000");
        holds("0-1000*1000+(0-5)=0-1000*1000");
        due.by("SIGN < or > or =");
        holds("not 2<2 and not 2>2 and 2=2");
        holds("1<2 and not 1>2 and not 1=2");
        holds("not 2<1 and 2>1 and not 2=1");
        due.by("BOTH { or BOTH }. BOTH: FACT { and FACT }");
        holds("all or not all and not all");
        holds("not all and not all or all");
        holds("not [[all or not all] and not all]");
        due.by("min ( SUM , SUM ) ; max ( SUM , SUM )");
        holds("min(2,2)=2 and max(2,2)=2");
        holds("min(1,2)=1 and min(2,1)=1 and max(1,2)=2 and max(2,1)=2");
        holds("min(0-1,0)+1=0 and max(0-1,0)=0");
    }

    private static void names() {
        due.by("NAMES: 1 to 6 letters");
        FourOnOne x = good("kind a;kind abcdef;kind z;kind zzzzzz;", 4);
        due.is("the 1st of one", x.letter(0, 0, 0), 1);
        due.is("behind one", x.letter(0, 0, 1), 0);
        due.is("the 6th of six", x.letter(0, 1, 5), 6);
        due.is("z", x.letter(0, 3, 5), 26);
        bad(1, "kind ^;");
        bad(1, "kind abcdef^g;");
        bad(1, "kind ^A;");
        bad(1, "kind ^{;");
        bad(1, "kind ^`;");
        bad(1, "kind a^0;");
        bad(1, "film abcdef^g parts 1 is k 1;");
        bad(1, "person abcdef^g at 0 to 1;");
        due.by("told ahead of where they are asked");
        bad(3, "film f parts 1 is ^k 1;kind k;");
        bad(3, K + "likes ^p k 1;" + P);
        bad(3, P + "likes p ^k 1;" + K);
        bad(3, "press ^p;" + P);
    }

    private static final String OWN = "kind, film, parts, is, person, at, to, likes, press, learns, fades, may, screens, price, "
        + "bother, strange, hour, taste, weight, seen, score, worth, number, or, and, not, all, min, max";

    private static void ownWords() {
        due.by("no OWN WORD");
        for (String word : OWN.split(", ")) {
            bad(1, "kind ^" + word + ";");
            bad(1, K + "film ^" + word + " parts 1 is k 1;");
            bad(1, "person ^" + word + " at 0 to 1;");
            // One letter more or less is another word.
            String more = word.length() < 6 ? word + "x" : "";
            String less = word.substring(0, Math.min(word.length() - 1, 6));
            if (!more.isEmpty()) {
                good("kind " + more + ";", 1);
            }
            if (!OWN.contains(less + ",")) {
                good("kind " + less + ";", 1);
            }
        }
        due.by("a 7th letter of what is no OWN WORD at itself");
        bad(1, "kind ^screens;");
        bad(1, "kind ^strange;");
        bad(1, "kind screen^t;");
        bad(1, "kind strang^f;");
        bad(1, "kind screen^ss;");
        bad(1, "kind strang^er;");
        // The words of questions are none of these.
        good("kind first;kind last;kind often;kind total;kind most;kind least;", 6);
    }

    private static void unlike() {
        due.by("unlike ones (of all sorts)");
        String[] told = {"kind x", "film x parts 1 is k 1", "person x at 0 to 1"};
        String[] again = {"kind ^x;", "film ^x parts 1 is k 1;", "person ^x at 0 to 1;"};
        for (String one : told) {
            for (String other : again) {
                bad(3, K + one + ";" + other);
                // It need not be the latest one.
                bad(3, K + one + ";kind y;film z parts 1 is k 1;person w at 0 to 1;" + other);
            }
        }
        good("kind xx;kind x;kind xxx;", 3);
    }

    private static void blanks() {
        due.by("Blanks (10, 32) are where one likes");
        good("\n \n kind \n k \n ; film\nf\nparts 2\nis\nk\n1\n;\nmay \n [ not \n all ] or min \n ( 1 , 2 ) \n < 3 \n ; \n", 3);
        for (int blank : new int[] {0, 9, 11, 12, 13, 31, 33, 127, 160, 255}) {
            bad(1, "kind^" + (char) blank + "k;");
            bad(1, "kind k;^" + (char) blank);
            bad(1, "^" + (char) blank + "kind k;");
        }
        // None is within a word or a number.
        bad(1, "^ki nd k;");
        bad(1, "kind a ^b;");
        bad(1, "price 1 ^2;");
    }

    private static void sideBySide() {
        due.by("words and numbers side by side need one");
        bad(1, "^kindk;");
        bad(1, "price^1;");
        bad(1, K + "film f parts^2 is k 1;");
        bad(1, K + "film f parts 2^is k 1;");
        bad(1, K + "film f parts 2 is k^1;");
        bad(1, K + "film f parts 2 is k 1^k 1;");
        bad(1, "person p at 1^to 2;");
        bad(1, "may 1<2^or all;");
        bad(1, "may not^1<2;");
        bad(1, "learns^1;");
        good("may not(1)<(2)and all;", 1);
        good("may not[all]and[all]or[not(1)<(2)];", 1);
        good("learns min(1,2)*max(taste,hour)/(3);", 1);
    }

    private static void fault1() {
        due.by("1 the first byte with which no such text goes on (words and numbers whole, at their first byte)");
        bad(1, "^kinds k;");
        bad(1, "^kin");
        bad(1, K + "film f ^part 1 is k 1;");
        bad(1, K + "film f ^partss 1 is k 1;");
        bad(1, K + "film f ^12 parts 1 is k 1;");
        bad(1, "learns ^tastes;");
        bad(1, "learns 1 ^12345;");
        bad(1, "learns ^abcdefghij;");
        due.by("where a number is asked, a 5th digit at itself");
        for (String head : new String[] {"price ", "screens ", "bother ", "strange ", "person p at ", "person p at 0 to ",
            K + "film f parts ", K + "film f parts 1 is k ", K + P + "likes p k ", "learns ", "fades taste+", "may 1<"}) {
            bad(1, head + "0001^1;");
            bad(1, head + "0001^1");
            bad(1, head + "0001^1111111111111111111111111;");
        }
        due.by("at the text's length, if it ends too soon");
        String whole = "kind k;film f parts 1 is k 1;person p at 0 to 1;likes p k 1;press p;learns (1)+min(1,2);may not [1<2];";
        good(whole, 7);
        for (String cut : new String[] {"kind", "kind k", "kind k;film", "kind k;film f", "kind k;film f parts",
            "kind k;film f parts 1", "kind k;film f parts 1 is", "kind k;film f parts 1 is k", "kind k;film f parts 1 is k 1",
            "person", "person p", "person p at", "person p at 0", "person p at 0 to", "person p at 0 to 1",
            K + P + "likes", K + P + "likes p", K + P + "likes p k", K + P + "likes p k 1", P + "press", P + "press p",
            "learns", "learns (", "learns (1", "learns (1)", "learns (1)+", "learns min", "learns min(", "learns min(1",
            "learns min(1,", "learns min(1,2", "learns min(1,2)", "may", "may not", "may not [", "may not [1", "may not [1<",
            "may not [1<2", "may not [1<2]", "may all or", "may all and", "screens", "price", "bother", "strange", "fades"}) {
            bad(1, cut + "^");
            bad(1, cut + " \n^");
        }
    }

    private static void fault1AtTheTapesEnd() {
        due.by("at the text's length, if it ends too soon");
        // The longest text that there can be: 1600 bytes.
        bad(1, " ".repeat(1594) + "kind k^");
        bad(1, "kind k" + " ".repeat(1594) + "^");
        bad(1, " ".repeat(1593) + "price 1^");
        bad(1, " ".repeat(1593) + "learns(^");
        bad(1, " ".repeat(1596) + "kind^");
        bad(1, " ".repeat(1599) + "^k");
        bad(1, " ".repeat(1599) + "^1");
        bad(1, " ".repeat(1588) + "kind abcdef^g");
        bad(1, " ".repeat(1589) + "price 1234^5");
        bad(2, " ".repeat(1590) + "price ^1000");
        bad(3, " ".repeat(1587) + "kind k;kind ^k");
        good(" ".repeat(1600), 0);
        good(" ".repeat(1592) + "price 1;", 1);
        good("price 1;" + " ".repeat(1592), 1);
        good("learns 1" + "+1".repeat(795) + ";" + " ", 1);
        due.is("as many steps as can be", good("kind k;film f parts 1 is k 1;person p at 0 to 0;may 780=1" + "+1".repeat(770) + ";", 4)
            .suggest(0), -1);
        due.is("they are 780", good("kind k;film f parts 1 is k 1;person p at 0 to 0;may 771=1" + "+1".repeat(770) + ";", 4)
            .suggest(0), 0);
    }

    private static void fault2() {
        due.by("2 a number that can't be, at it");
        // It is ahead of all that stands behind it, right behind it, too.
        bad(2, "price ^1000");
        bad(2, "price ^1000x");
        bad(2, "price ^1000 x");
        bad(2, K + "film f parts ^0is");
        bad(2, K + "film f parts 1 is k ^10k");
        bad(2, "person p at 23 to ^22x");
    }

    private static void fault3() {
        due.by("3 a NAME to be given that is there already");
        bad(3, K + "kind ^k");
        bad(3, K + "film ^k 5");
        bad(3, K + "person ^k;");
        due.by("one that is none of what is asked");
        bad(3, K + P + "film f parts 1 is ^p 1;");
        bad(3, K + P + "film f parts 1 is ^f 1;");
        bad(3, K + P + "film f parts 1 is k 1 ^x 1;");
        bad(3, K + P + "press ^k;");
        bad(3, K + P + "press ^x");
        due.by("or can't be (a KIND told in that row, one who presses already), at it");
        bad(3, K + "film f parts 1 is k 1 ^k 0;");
        bad(3, P + "press p;press ^p");
        // A row is that film's alone.
        good(K + "film f parts 1 is k 1;film g parts 1 is k 1;", 3);
    }

    private static void fault4() {
        due.by("4 the 7th of ( [ not that is open at once, at it");
        good("may " + "[".repeat(6) + "all" + "]".repeat(6) + ";", 1);
        bad(4, "may " + "[".repeat(6) + "^[");
        good("may " + "not ".repeat(6) + "all;", 1);
        bad(4, "may " + "not ".repeat(6) + "^not");
        good("may " + "(".repeat(6) + "1" + ")".repeat(6) + "<2;", 1);
        bad(4, "may " + "(".repeat(6) + "^(");
        good("may " + "not [".repeat(3) + "all" + "]".repeat(3) + ";", 1);
        bad(4, "may " + "not [".repeat(3) + "^not");
        bad(4, "may " + "not [".repeat(3) + "^[");
        bad(4, "may " + "not [".repeat(3) + "^(");
        bad(4, "may " + "not [".repeat(3) + "1<^(");
        good("learns " + "min(1,".repeat(6) + "1" + ")".repeat(6) + ";", 1);
        bad(4, "learns " + "min(1,".repeat(6) + "max^(");
        good("learns " + "max(".repeat(6) + "1" + ",1)".repeat(6) + ";", 1);
        bad(4, "learns " + "max(".repeat(6) + "^(");
        due.by("that is open at once");
        // Any number of them, one behind the other.
        good("learns 0" + "+(1)".repeat(20) + ";", 1);
        good("learns 0" + "+min(1,2)".repeat(20) + ";", 1);
        good("learns 0" + "+max((1),(2))*((3))".repeat(10) + ";", 1);
        good("may all" + " and [all]".repeat(20) + ";", 1);
        good("may all" + " or [[all] and [all]]".repeat(10) + ";", 1);
        good("learns ((((((1)))))+(((((1))))));", 1);
        bad(4, "learns ((((((1)))))+(((((^(1)))))));");
        // Each formula begins anew.
        good("learns ((((((1))))));fades ((((((1))))));may [[[[[[all]]]]]];", 3);
        due.by("not until its FACT ends");
        good("may all" + " and not all".repeat(20) + ";", 1);
        good("may not not not not not not all or not not not not not not 1<2;", 1);
        good("may not not not not not (1)<(2)and not not not not not (1)<(2);", 1);
        bad(4, "may not not not not not not 1<^(2);");
        bad(4, "may not not not not not not ^(2)<1;");
        bad(4, "may not not not not not not ^[all];");
        bad(4, "may not not not not not not 1<min^(2,3);");
        // Where such a sign can't be it is no 7th one.
        bad(1, "learns ((((((^[");
        bad(1, "learns ((((((^not");
        bad(1, "learns ((((((1^(");
        bad(1, "may [[[[[[all^[");
        bad(1, "may [[[[[[all ^not");
        bad(1, "may ((((((^[");
    }

    private static void fault5() {
        due.by("an 81st STATEMENT (whatever stands there), at its first byte");
        String eighty = "price 1;".repeat(80);
        for (String there : new String[] {"price 1;", "kind k;", "x", ";", "#", "5", "kind", "price 9999;", "(", "Z"}) {
            bad(5, eighty + "^" + there);
            bad(5, eighty + "\n ^" + there);
            good("price 1;".repeat(79) + " price 1 ; ", 80);
        }
        bad(1, "price 1;".repeat(79) + "^x;");
        bad(1, "price 1;".repeat(79) + "price 1^");
        due.by("5 one too many of a kind (a second learns, fades, may, too), at its first byte");
        bad(5, many("kind", 6, "") + " ^kind");
        bad(5, many("kind", 6, "") + "^kind a;");
        bad(5, many("kind", 6, "") + "^kind ;");
        bad(5, many("kind", 6, "") + "^kind abcdefg;");
        bad(1, many("kind", 6, "") + "^kinds;");
        bad(5, "learns 1; ^learns");
        bad(5, "may all; ^may x;");
        bad(1, "may all;^mays;");
    }

    private static void firstAlong() {
        due.by("FAULTS, the first along the text");
        bad(1, "kind ^5;price 1000;kind kind;");
        bad(2, "price ^1000;kind 5;kind kind;");
        bad(3, K + "kind ^k;price 1000;#");
        bad(4, "learns (((((( ^(1000));price 1000;");
        bad(5, "learns 1;^learns #;price 1000;");
        bad(2, "price 1;screens ^0;learns 1;learns 1;");
    }

    /** Formulas in which as much waits on all six levels as can wait. */
    private static void deep() {
        due.by("4 the 7th of ( [ not that is open at once");
        holds("1+2*(1+2*(1+2*(1+2*(1+2*(1+2*(3))))))=255");
        holds("1+2*min(9999,1+2*min(9999,1+2*min(9999,1+2*min(9999,1+2*min(9999,1+2*min(9999,3))))))=255");
        holds("1<0 or all and [1<0 or all and [1<0 or all and [1<0 or all and [1<0 or all and [1<0 or all and 7=1+2*3]]]]]");
        holds("1<0 or all and not [1<0 or all and not [1<0 or 8=1+2*max(1,1+2*(1+0*3))-1+2]]");
    }

    private static final String HOUSE = "kind a;kind b;film f parts 3 is a 2;film g parts 2 is b 1 a 1;person p at 0 to 23;"
        + "person q at 1 to 3;likes p a 4;likes q b 2;press q;screens 2;price 10;bother 1;strange 50;";

    private static FourOnOne stood() {
        FourOnOne x = Due.housed(HOUSE);
        x.hours(2);
        x.show(0, 1);
        x.press(0, 1);
        Due.tell(x, 0, 0, 1, 2, 1, 0);
        x.image();
        return x;
    }

    private static void house() {
        due.by("NONE, refused (1), with a FAULT (all else stays)");
        for (String text : new String[] {"kind", "kind k;price 1000;", "kind k;kind k;", "learns (((((((", "may all;may all;", "x"}) {
            FourOnOne x = stood();
            String before = Whole.of(x);
            due.is(text, Due.house(x, text), -1);
            due.is(text + " refused", x.status(1), 1);
            due.stays(text, x, before);
        }
        due.by("The tape (it goes, refused or not) is THE HOUSE");
        for (String text : new String[] {"kind", "kind k;"}) {
            FourOnOne x = stood();
            Due.house(x, text);
            due.is("the tape went", x.end(1), false);
            due.is("it is empty", x.end(0), true);
            due.is("the next bytes are the first", x.feed(1, 2, 3, 4, 5), 20);
        }
        due.by("Without one all is as at first, nothing is KEPT, TOLD or can be undone");
        FourOnOne x = stood();
        due.is("the same again", Due.house(x, HOUSE), 13);
        x.image();
        FourOnOne y = Due.housed(HOUSE);
        y.image();
        due.stays("a second time", x, Whole.of(y));
        due.is("the tape went", x.end(1), false);
        due.is("none refused", x.status(1), 0);
        due.is("nothing is kept", x.has(8), 0);
        due.is("nothing is told", x.has(9), 0);
        due.is("nothing can be undone", x.undo(), false);
        FourOnOne empty = stood();
        due.is("the empty one", Due.house(empty, ""), 0);
        empty.image();
        FourOnOne first = new FourOnOne();
        first.image();
        due.stays("the empty one", empty, Whole.of(first));
        due.by("the seed stays");
        FourOnOne z = stood();
        z.seed(4711);
        Due.house(z, HOUSE);
        FourOnOne w = Due.housed(HOUSE);
        w.seed(4711);
        due.is("strangers", z.chance(20), w.chance(20));
        z.image();
        w.image();
        due.stays("20 hours by the seed", z, Whole.of(w));
    }

    private static void faults() {
        due.by("its FAULT (what 0; 0 without, and ahead of any), its place (1; NONE without)");
        FourOnOne x = new FourOnOne();
        due.is("ahead of any", x.fault(0), 0);
        due.is("ahead of any, its place", x.fault(1), -1);
        Due.house(x, "#");
        due.is("1", x.fault(0), 1);
        due.is("at 0", x.fault(1), 0);
        due.is("still", x.fault(0) * 10 + x.fault(1), 10);
        due.by("Of the latest house() or ask()");
        Due.house(x, P);
        due.is("without", x.fault(0), 0);
        due.is("without, its place", x.fault(1), -1);
        Due.ask(x, 0, "often all;");
        due.is("of the question", x.fault(0), 1);
        due.is("of the question, its place", x.fault(1), 9);
        Due.house(x, "price 1000;");
        due.is("of the house", x.fault(0), 2);
        due.is("of the house, its place", x.fault(1), 6);
        Due.ask(x, 0, "often all");
        due.is("of the question, without", x.fault(0), 0);
        due.is("of the question, without, its place", x.fault(1), -1);
        due.by("NONE for another what");
        due.is("2", x.fault(2), -1);
        due.is("-1", x.fault(-1), -1);
        due.is("far below", x.fault(Integer.MIN_VALUE), -1);
        due.is("far above", x.fault(Integer.MAX_VALUE), -1);
    }
}
