/** Promises 4, 5: the text of a house, its faults. */
public final class HouseTest {
    private static final Due due = new Due("HouseTest");
    private static final String K = "kind k;";
    private static final String P = "person p at 0 to 1;";

    public static void main(String[] args) {
        good();
        goesOn();
        names();
        numbers();
        known();
        formulas();
        open();
        tooMany();
        begins();
        again();
        due.end();
    }

    private static void good(String text, int statements) {
        FourOnOne x = new FourOnOne();
        due.is(text, Due.house(x, text), statements);
        due.is(text + " fault", x.fault(0), 0);
        due.is(text + " place", x.fault(1), -1);
    }

    /** The ^ in the text marks the place of the fault. */
    private static void bad(int fault, String marked) {
        FourOnOne x = new FourOnOne();
        due.is(marked, Due.house(x, marked.replace("^", "")), -1);
        due.is(marked + " fault", x.fault(0), fault);
        due.is(marked + " place", x.fault(1), marked.indexOf('^'));
        due.is(marked + " refused", x.status(1), 1);
    }

    private static void good() {
        good("", 0);
        good(" \n ", 0);
        good("kind k;", 1);
        good("\nkind\nabcdef\n;\n", 1);
        good("kind first;kind last;kind often;kind total;kind most;kind least;", 6);
        good("kind a;film b parts 1 is a 1;person c at 0 to 0;likes c a 0;press c;", 5);
        good("kind a;kind b;film f parts 9 is b 9 a 1;", 3);
        good("screens 1;screens 5;price 0;price 999;bother 0;bother 99;strange 0;strange 100;", 8);
        good("price 0001;price 1 ;price\n2;", 3);
        good("person p at 23 to 23;person q at 0 to 0;", 2);
        good("learns 0;fades 9999;may all;", 3);
        good("learns weight*taste+hour/2-(1)*min(1,max ( 2 , 3 ));", 1);
        good("fades max(taste-1,0);", 1);
        good("may seen<parts and not [score>1 or hour=3]or all;", 1);
        good("may (hour)<5 and(hour)=(5)or not(hour)>1;", 1);
        good("price 1;".repeat(80), 80);
        good("price 1;".repeat(80) + " \n", 80);
    }

    private static void goesOn() {
        bad(1, "^x;");
        bad(1, "^;");
        bad(1, "^#");
        bad(1, "^5;");
        bad(1, "^screen 1;");
        bad(1, "^kinds a;");
        bad(1, "^Kind a;");
        bad(1, "^kin ");
        bad(1, "kind^");
        bad(1, "kind ^");
        bad(1, "kind  \n^");
        bad(1, "kind k^");
        bad(1, "kind k ^");
        bad(1, "kind k;^#");
        bad(1, "kind^\tk;");
        bad(1, "kind^\r");
        bad(1, "kind k ^l;");
        bad(1, "kind k^,");
        bad(1, "kind k;^;");
        bad(1, K + "film f ^part 2 is k 1;");
        bad(1, K + "film f ^2 is k 1;");
        bad(1, K + "film f parts^2 is k 1;");
        bad(1, K + "film f parts ^x is k 1;");
        bad(1, K + "film f parts 2^is k 1;");
        bad(1, K + "film f parts 2 ^k 1;");
        bad(1, K + "film f parts 2 is ^;");
        bad(1, K + "film f parts 2 is k^;");
        bad(1, K + "film f parts 2 is k^1;");
        bad(1, K + "film f parts 2 is k 1^k 2;");
        bad(1, K + "film f parts 2 is k 1 ^2;");
        bad(1, K + "film f parts 2 is k 1 ^22222;");
        bad(1, K + "film f parts 2 is k 1 ^is;");
        bad(1, K + "film f parts 2 is k 1 ^");
        bad(1, "person p ^to 1 at 2;");
        bad(1, "person p at 1 ^2;");
        bad(1, "person p at 1^to 2;");
        bad(1, "person p at 1 to^2;");
        bad(1, "person p at 1 to 2 ^3;");
        bad(1, K + P + "likes p k^;");
        bad(1, K + P + "likes p k 1 ^2;");
        bad(1, P + "press p ^1;");
        bad(1, "price^;");
        bad(1, "price ^-1;");
        bad(1, "price 1^.5;");
        bad(1, "screens 1^screens 2;");
    }

    private static void names() {
        bad(1, "kind abcdef^g;");
        bad(1, "kind abcdef^gh;");
        bad(1, "kind strang^es;");
        bad(1, "kind screen^t;");
        for (String word : "kind film parts is person at to likes press learns fades may screens price bother strange hour taste weight seen score worth number or and not all min max".split(" ")) {
            bad(1, "kind ^" + word + ";");
        }
        bad(1, "person ^at at 1 to 2;");
        bad(1, K + P + "likes ^is k 1;");
        // A 7th letter, where a name that is told already is asked.
        bad(1, K + P + "likes person^x k 1;");
        bad(1, K + "film f parts 1 is k 1 abcdef^g 1;");
        bad(1, "kind ^A;");
        bad(1, "kind a^B;");
        bad(1, "kind ^1a;");
        bad(1, "kind ^12345;");
        bad(1, "kind a^_b;");
        bad(1, "kind ^" + (char) 228 + ";");
        bad(3, K + "kind ^k;");
        bad(3, K + "film ^k parts 1 is k 1;");
        bad(3, K + "person ^k at 1 to 2;");
        bad(3, K + "film f parts 1 is k 1;kind ^f;");
        bad(3, K + "film f parts 1 is k 1;film ^f parts 1 is k 1;");
        bad(3, K + "film f parts 1 is k 1;person ^f at 1 to 2;");
        bad(3, P + "kind ^p;");
        bad(3, P + "person ^p;");
        bad(3, "kind abcdef;kind abcde;kind ^abcdef;");
    }

    private static void numbers() {
        bad(2, K + "film f parts ^0 is k 1;");
        bad(2, K + "film f parts ^10 is k 1;");
        bad(2, K + "film f parts 1 is k ^0;");
        bad(2, K + "film f parts 1 is k ^10;");
        bad(2, "person p at ^24 to 25;");
        bad(2, "person p at 5 to ^4;");
        bad(2, "person p at 0 to ^24;");
        bad(2, K + P + "likes p k ^10;");
        bad(2, "screens ^0;");
        bad(2, "screens ^6;");
        bad(2, "price ^1000;");
        bad(2, "bother ^100;");
        bad(2, "strange ^101;");
        bad(2, "strange ^9999;");
        bad(2, "price ^1000x;");
        bad(1, "price 1234^5;");
        bad(1, "price 0000^0;");
        bad(1, "price 0000^000000000000000000000;");
        bad(1, "price 9999^99999999999999999999999999;");
        bad(1, "price^12345;");
    }

    private static void known() {
        bad(3, "film f parts 1 is ^k 1;");
        bad(3, "film f parts 1 is ^f 1;");
        bad(3, P + "film f parts 1 is ^p 1;");
        bad(3, K + "film f parts 1 is k 1 ^k 1;");
        bad(3, K + "film f parts 1 is k 1 ^l 1;");
        bad(3, "likes ^p k 1;");
        bad(3, K + "likes ^k k 1;");
        bad(3, P + "likes p ^k 1;");
        bad(3, K + P + "likes p ^p 1;");
        bad(3, "press ^p;");
        bad(3, K + "press ^k;");
        bad(3, P + "press p;press ^p;");
        bad(3, "press ^p;" + P);
    }

    private static void formulas() {
        bad(1, "learns ^;");
        bad(1, "learns taste^");
        bad(1, "learns taste+^;");
        bad(1, "learns ^+1;");
        bad(1, "learns (taste^;");
        bad(1, "learns (^);");
        bad(1, "learns taste^);");
        bad(1, "learns 1 ^2;");
        bad(1, "learns 1^taste;");
        bad(1, "learns taste^1;");
        bad(1, "learns 1234^5;");
        bad(1, "learns hour^=1;");
        bad(1, "learns hour^%2;");
        for (String word : "parts seen score worth number all not kind abc abcdefgh".split(" ")) {
            bad(1, "learns ^" + word + ";");
            bad(1, "fades 1*^" + word + ";");
        }
        bad(1, "fades ^weight;");
        bad(1, "learns min ^taste;");
        bad(1, "learns min^;");
        bad(1, "learns min(1^);");
        bad(1, "learns max(1,^);");
        bad(1, "learns max(1,2^,3);");
        for (String word : "taste weight worth number abc is".split(" ")) {
            bad(1, "may ^" + word + "<1;");
            bad(1, "may 1<^" + word + ";");
        }
        bad(1, "may ^;");
        bad(1, "may hour^;");
        bad(1, "may hour ^and all;");
        bad(1, "may hour<1 and^;");
        bad(1, "may hour<^<1;");
        bad(1, "may all ^all;");
        bad(1, "may all^<1;");
        bad(1, "may all^+1;");
        bad(1, "may not^;");
        bad(1, "may not^1<2;");
        bad(1, "may hour<1^or all;");
        bad(1, "may (^all);");
        bad(1, "may (hour^<1);");
        bad(1, "may [all^;");
        bad(1, "may [hour^];");
        bad(1, "may all^];");
        bad(1, "may [^];");
        bad(1, "may hour<1 ^xor all;");
    }

    private static void open() {
        good("learns ((((((1))))));", 1);
        bad(4, "learns ((((((^(1)))))));");
        bad(4, "learns (((((( ^(");
        good("may [[[[[[all]]]]]];", 1);
        bad(4, "may [[[[[[^[all]]]]]]];");
        good("may not not not not not not all;", 1);
        bad(4, "may not not not not not not ^not all;");
        bad(4, "may not [not [not [^not all]]];");
        bad(4, "may not [not [not [ ^(1)<2]]];");
        good("learns min(1,min(1,min(1,min(1,min(1,min(1,2))))));", 1);
        bad(4, "learns min(1,min(1,min(1,min(1,min(1,min(1,min^(1,2)))))));");
        good("learns (1)+(1)+(1)+(1)+(1)+(1)+(1)+(1);", 1);
        good("may not hour<1 and not hour<1 or not all and not hour<1 and not hour<1 and not all and not all;", 1);
        good("may [all] and [all] and [all] and [all] and [all] and [all] and [all] and not ((1))<(2);", 1);
        good("learns ((((((1))))));fades ((((((1))))));may not not not [[[all]]];", 3);
        bad(4, "may not not not ((( ^(1)))<1;");
        // The sixth is closed in time, the fact's not is not.
        good("may not not not not not (1)<(2);", 1);
        bad(4, "may not not not not not not ^(1)<2;");
        // A place where no such sign can be has the first fault.
        bad(1, "learns ((((((1^(");
        bad(1, "learns ((((((^[");
    }

    private static void tooMany() {
        bad(5, "kind a;kind b;kind c;kind d;kind e;kind f;^kind g;");
        bad(5, "kind a;kind b;kind c;kind d;kind e;kind f; ^kind 5");
        String films = K;
        for (char c = 'a'; c < 'i'; c++) {
            films += "film " + c + " parts 1 is k 1;";
        }
        good(films, 9);
        bad(5, films + "^film i parts 1 is k 1;");
        String people = "";
        for (char c = 'a'; c < 'f'; c++) {
            people += "person " + c + " at 1 to 1;";
        }
        good(people, 5);
        bad(5, people + "^person f at 1 to 1;");
        bad(5, "learns 1;^learns 1;");
        bad(5, "fades 1; ^fades 1;");
        bad(5, "may all;^may #;");
        bad(5, "price 1;".repeat(80) + "^price 1;");
        bad(5, "price 1;".repeat(80) + "\n^#");
        bad(5, "price 1;".repeat(80) + "^;");
        bad(1, "price 1;".repeat(79) + "^;");
    }

    private static void begins() {
        FourOnOne x = Due.housed("kind k;kind l;film f parts 3 is k 1;person p at 0 to 23;press p;screens 3;");
        x.hours(2);
        Due.tell(x, 0, 0, 1);
        x.seed(77);
        x.chance(1);
        due.is("refused", Due.house(x, "kind x;film"), -1);
        int[] stays = {2, 1, 1, 3, 0, 3, 1, 3, 3, 1, 2};
        for (int what = 0; what < stays.length; what++) {
            due.is("all else stays: has " + what, x.has(what), stays[what]);
        }
        due.is("all else stays: letter", x.letter(0, 0, 0), 11);
        due.is("all else stays: taste", x.taste(0, 0), 3);
        due.is("the tape went", x.end(1), false);
        due.is("the fault", x.fault(0) * 100 + x.fault(1), 111);
        due.is("none for another what", x.fault(2), -1);
        due.is("none for one below", x.fault(-1), -1);
        x.image();
        due.is("a second house", Due.house(x, "kind k;film f parts 3 is k 1;person q at 0 to 23;strange 50;"), 4);
        due.is("the fault went", x.fault(0) * 100 + x.fault(1), -1);
        int[] first = {1, 1, 1, 5, 0, 0, 0, 0, 0, 0, 0};
        for (int what = 0; what < first.length; what++) {
            due.is("all is as at first: has " + what, x.has(what), first[what]);
        }
        due.is("no taste", x.taste(0, 0) + x.taste(-1, 0), 0);
        due.is("none seen", x.seen(0, 0) + x.seen(-1, 0), 0);
        due.is("no liking", x.person(0, 10), 0);
        due.is("no undo", x.undo(), false);
        due.is("nothing is told", x.pressed(0), 2);
        // One draw has been made of 77.
        FourOnOne y = Due.housed("kind k;film f parts 3 is k 1;person q at 0 to 23;strange 50;");
        y.seed((int) ((1103515245L * 77 + 12345) % 2147483648L));
        for (int k = 0; k < 5; k++) {
            due.is("the seed stays " + k, x.chance(1), y.chance(1));
        }
        due.is("formulas of the house before do not count",
            Due.house(Due.housed("learns 1;fades 1;may all;"), "learns 1;fades 1;may all;"), 3);
    }

    /** Nothing of a house comes again in the next ones, nothing of a fault in the next text. */
    private static void again() {
        FourOnOne x = Due.housed("kind a;kind b;film f parts 9 is b 9 a 8;film g parts 9 is a 7;person p at 0 to 23;"
            + "person q at 0 to 23;likes p a 9;likes q b 9;likes p b 8;press p;press q;screens 1;price 5;bother 6;strange 7;"
            + "learns 5;fades taste*2;may hour>5;");
        x.hours(20);
        x.press(0, 0);
        x.show(0, 0);
        due.is("tastes there are", x.taste(-1, 0) > 0 && x.taste(-1, 1) > 0 && x.taste(0, 0) > 0, true);
        for (int k = 0; k < 3; k++) {
            String bare = "kind a;kind b;film f parts 9 is a 1;film g parts 9 is b 2;person p at 0 to 23;person q at 0 to 23;";
            due.is("bare " + k, Due.house(x, bare), 6);
            due.is("counts " + k, x.has(0) * 100 + x.has(1) * 10 + x.has(2), 222);
            due.is("weights " + k, x.film(0, 10) * 1000 + x.film(0, 11) * 100 + x.film(1, 10) * 10 + x.film(1, 11), 1002);
            due.is("likes " + k, x.person(0, 10) + x.person(0, 11) + x.person(1, 10) + x.person(1, 11), 0);
            due.is("who presses " + k, x.has(6), 0);
            due.is("screens " + k, x.has(3), 5);
            due.is("tastes " + k, x.taste(-1, 0) + x.taste(-1, 1) + x.taste(0, 0) + x.taste(1, 1), 0);
            due.is("seen " + k, x.seen(-1, 0) + x.seen(-1, 1) + x.seen(0, 0) + x.seen(1, 1), 0);
            due.is("no may " + k, x.suggest(0), 0);
            due.is("no learns, no fades " + k, x.hours(1) * 10 + x.taste(-1, 0), 22);
            due.is("no price " + k, x.share(0), 0);
            x.press(0, 1);
            due.is("no bother " + k, x.show(0, 0), 0);
            x.seed(firstDrawIs0());
            due.is("no strangers " + k, x.chance(1), 0);
        }
        due.is("a fault six deep", Due.house(x, "learns ((((((?"), -1);
        due.is("six again", Due.house(x, "learns ((((((1))))));"), 1);
    }

    /** A seed by which a stranger comes, if strange is 1 or more. */
    private static int firstDrawIs0() {
        int seed = 0;
        while ((1103515245L * seed + 12345) % 2147483648L / 64 % 100 != 0) {
            seed++;
        }
        return seed;
    }
}
