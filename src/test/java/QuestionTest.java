/** Promise 32: questions of all films for a person. */
public final class QuestionTest {
    private static final Due due = new Due("QuestionTest");
    private static final String HOUSE = "kind a;kind b;film f parts 2 is a 5;film g parts 3 is b 4 a 2;film h parts 9 is b 6;"
        + "person p at 0 to 23;person q at 0 to 23;likes p a 9;likes q b 5;likes q a 1;press q;";

    public static void main(String[] args) {
        answers();
        faults();
        people();
        without();
        due.end();
    }

    private static void is(FourOnOne x, int person, String text, long want) {
        due.is(text, Due.ask(x, person, text), want);
        due.is(text + " fault", x.fault(0), 0);
        due.is(text + " place", x.fault(1), -1);
    }

    private static void answers() {
        FourOnOne x = Due.housed(HOUSE);
        is(x, 0, "first all", 0);
        is(x, 0, "last all", 2);
        is(x, 0, "often all", 3);
        is(x, 0, "\n often  parts > 2 ", 2);
        is(x, 0, "first parts>2", 1);
        is(x, 0, "first parts>9", -1);
        is(x, 0, "last parts<3", 0);
        is(x, 0, "last not all", -1);
        is(x, 0, "often not all", 0);
        is(x, 0, "total number", 3);
        is(x, 0, "total number*number+1", 8);
        is(x, 0, "total parts", 14);
        is(x, 0, "most parts", 9);
        is(x, 0, "least parts", 2);
        is(x, 0, "total worth", 63);
        is(x, 1, "total worth", 5 + 22 + 30);
        is(x, 1, "most worth", 30);
        is(x, 1, "least worth", 5);
        is(x, 0, "least 0-worth", -45);
        is(x, 0, "most 0-parts", -2);
        is(x, 0, "total weight 0", 7);
        is(x, 0, "total weight 1", 10);
        is(x, 0, "total weight 2", 0);
        is(x, 0, "total weight 9999", 0);
        is(x, 0, "total weight(0-1)", 0);
        is(x, 0, "total weight number", 5 + 4);
        is(x, 0, "total weight weight 1", 5 + 0 + 0);
        is(x, 0, "total weight 0+1", 10);
        is(x, 0, "total weight(0+1)", 10);
        is(x, 0, "total weight min(number,1)*100", 500 + 400 + 600);
        // Each is held, all together are not.
        is(x, 0, "total 9999*9999", 3000000);
        is(x, 0, "total 0-9999*9999", -3000000);
        is(x, 0, "most 9999*9999+1", 1000000);
        is(x, 0, "total score", 3);
        is(x, 0, "total seen+hour", 0);
        x.show(1, 1);
        x.hours(1);
        // p saw f by the account's profile (a 5), q g, then h by his own (a 2, b 4 + 6).
        is(x, 1, "most score", 61);
        is(x, 1, "least score", 11);
        is(x, 1, "total score", 11 + 45 + 61);
        is(x, 1, "total seen", 2);
        is(x, 0, "total seen", 1);
        is(x, 0, "most score", 26);
        is(x, 0, "total score", 26 + 11 + 1);
        is(x, 1, "first seen=1", 1);
        is(x, 1, "last seen=1", 2);
        is(x, 0, "total hour", 3);
        is(x, 0, "often number=1 or worth=45 and not seen<1", 2);
        is(x, 0, "first [number=1 or worth=45] and seen<1", 1);
        is(x, 0, "least max(3,parts)", 3);
        is(x, 0, "total 7/2", 9);
        is(x, 0, "total (0-7)/2", -12);
        is(x, 0, "total parts/seen", 2);
        due.is("nothing has changed", x.has(5) * 10 + x.has(7), 13);
    }

    /** The ^ in the text marks the place of the fault. */
    private static void bad(FourOnOne x, int fault, String marked) {
        due.is(marked, Due.ask(x, 0, marked.replace("^", "")), FourOnOne.NOTHING);
        due.is(marked + " fault", x.fault(0), fault);
        due.is(marked + " place", x.fault(1), marked.indexOf('^'));
        due.is(marked + " the tape went", x.end(1), false);
    }

    private static void faults() {
        FourOnOne x = Due.housed(HOUSE);
        bad(x, 1, "^");
        bad(x, 1, "  ^");
        bad(x, 1, "^some all");
        bad(x, 1, "^firsts all");
        bad(x, 1, "^kind");
        bad(x, 1, "^5");
        bad(x, 1, "^#");
        bad(x, 1, "first^");
        bad(x, 1, "first ^");
        bad(x, 1, "first^1<2");
        bad(x, 1, "first all^;");
        bad(x, 1, "first all ^all");
        bad(x, 1, "first all ^abcdefghi");
        bad(x, 1, "first parts^");
        bad(x, 1, "first [all]^<1");
        bad(x, 1, "total ^all");
        bad(x, 1, "total parts^<1");
        bad(x, 1, "total ^not all");
        bad(x, 1, "total 1 ^2");
        bad(x, 1, "total 1234^5");
        bad(x, 1, "total parts^1");
        bad(x, 1, "total 1^parts");
        bad(x, 1, "most weight^");
        bad(x, 1, "most weight^1");
        bad(x, 1, "most weight ^;");
        bad(x, 1, "most weight ^all");
        for (String word : "taste kind film a f p unknown abcdefgh first total".split(" ")) {
            bad(x, 1, "most 1+^" + word);
        }
        bad(x, 1, "most min^");
        bad(x, 1, "most min(1^)");
        bad(x, 1, "most (1^");
        is(x, 0, "most ((((((1))))))", 1);
        bad(x, 4, "most ((((((^(1)))))))");
        is(x, 0, "first [[[[[[all]]]]]]", 0);
        bad(x, 4, "first [[[[[[^[all]]]]]]]");
        is(x, 0, "first not not not not not not all", 0);
        bad(x, 4, "first not not not not not not ^not all");
        is(x, 0, "total weight weight weight weight weight weight 9", 5 + 2 + 0);
        bad(x, 4, "total weight weight weight weight weight weight ^weight 9");
        bad(x, 4, "total weight weight weight weight weight weight ^(9)");
        bad(x, 4, "first not [not [not weight ^weight (1)<2]]");
        is(x, 0, "total weight 0+weight 0+weight 0+weight 0+weight 0+weight 0+weight 0", 49);
        is(x, 0, "most weight 0*weight(1)+weight (0)", 10);
        bad(x, 4, "most min(1,min(1,min(1,min(1,min(1,min(1,max^(1,2)))))))");
        bad(x, 1, "most 0000^0");
        for (int what = 1; what < 6; what++) {
            due.is("none is refused, " + what, x.status(what), 0);
        }
    }

    private static void people() {
        FourOnOne x = Due.housed(HOUSE);
        Due.house(x, "kind k;^");
        due.is("a fault of the house", x.fault(0) * 100 + x.fault(1), 107);
        due.is("none such", Due.ask(x, 2, "often all"), FourOnOne.NOTHING);
        due.is("nothing else is done", x.fault(0) * 100 + x.fault(1), 107);
        due.is("the tape went", x.end(1), false);
        due.is("none below", Due.ask(x, -1, "often #"), FourOnOne.NOTHING);
        due.is("nothing else is done", x.fault(0) * 100 + x.fault(1), 107);
        is(x, 1, "often all", 3);
        due.is("none such", Due.ask(x, 2, "often #"), FourOnOne.NOTHING);
        due.is("no fault still", x.fault(0) * 100 + x.fault(1), -1);
    }

    private static void without() {
        FourOnOne x = Due.housed("kind k;person p at 0 to 0;");
        is(x, 0, "first all", -1);
        is(x, 0, "last all", -1);
        is(x, 0, "often all", 0);
        is(x, 0, "total 5", 0);
        is(x, 0, "most 5", 0);
        is(x, 0, "least 5", 0);
    }
}
