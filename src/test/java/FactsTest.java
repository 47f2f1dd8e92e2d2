/** Promises 6 to 13: what a house and an account are told to have. */
public final class FactsTest {
    private static final Due due = new Due("FactsTest");
    private static final String HOUSE = "kind az;kind b;kind abcdef;film f parts 2 is az 5;film g parts 3 is b 4 abcdef 2;"
        + "person p at 9 to 20;person q at 0 to 23;likes p az 9;likes p az 3;likes q b 5;likes q abcdef 7;press q;"
        + "screens 2;screens 4;price 10;";

    public static void main(String[] args) {
        has();
        letters();
        films();
        people();
        profiles();
        suggested();
        formulas();
        worths();
        due.end();
    }

    private static void has() {
        FourOnOne x = Due.housed(HOUSE);
        int[] first = {3, 2, 2, 4, 0, 0, 1, 0, 0, 0, 0};
        for (int what = 0; what < first.length; what++) {
            due.is("has " + what, x.has(what), first[what]);
        }
        due.is("has -1", x.has(-1), -1);
        due.is("has 11", x.has(11), -1);
        x.press(0, 1);
        due.is("two press", x.has(6), 2);
        // q sees in hours 0 to 9, as long as there are parts: 5 parts; p presses, too, and is free from 9 on: 5, too.
        x.hours(30);
        due.is("day", x.has(4), 1);
        due.is("hour", x.has(5), 6);
        due.is("parts seen by all", x.has(7), 10);
        due.is("kept", x.has(8), 10);
        due.is("acts", x.has(10), 2);
        Due.tell(x, 0, 0, 0, 1, 0, 0, 2, 0, 0);
        due.is("rows told", x.has(9), 3);
        x.undo();
        due.is("acts, one undone", x.has(10), 1);
        due.is("parts seen, undone", x.has(7), 0);
    }

    private static void letters() {
        FourOnOne x = Due.housed(HOUSE);
        int[][] az = {{0, 0, 1, 26, 0, 0, 0, 0}, {0, 2, 1, 2, 3, 4, 5, 6}, {1, 0, 6, 0, 0, 0, 0, 0},
            {2, 1, 17, 0, 0, 0, 0, 0}};
        for (int[] row : az) {
            for (int k = 0; k < 6; k++) {
                due.is("letter " + row[0] + " " + row[1] + " " + k, x.letter(row[0], row[1], k), row[k + 2]);
            }
        }
        int[][] none = {{0, 0, -1}, {0, 0, 6}, {0, 3, 0}, {0, -1, 0}, {1, 2, 0}, {2, 2, 0}, {3, 0, 0}, {-1, 0, 0},
            {Integer.MAX_VALUE, 0, 0}, {0, Integer.MAX_VALUE, 0}, {0, 0, Integer.MIN_VALUE}};
        for (int[] row : none) {
            due.is("letter " + row[0] + " " + row[1] + " " + row[2], x.letter(row[0], row[1], row[2]), -1);
        }
    }

    private static void films() {
        FourOnOne x = Due.housed(HOUSE);
        int[][] rows = {{0, 0, 2}, {0, 10, 5}, {0, 11, 0}, {0, 12, 0}, {0, 13, -1}, {0, 1, -1}, {0, 9, -1}, {0, -1, -1},
            {1, 0, 3}, {1, 10, 0}, {1, 11, 4}, {1, 12, 2}, {2, 0, -1}, {-1, 0, -1}, {0, Integer.MIN_VALUE, -1},
            {0, Integer.MAX_VALUE, -1}};
        for (int[] row : rows) {
            due.is("film " + row[0] + " " + row[1], x.film(row[0], row[1]), row[2]);
        }
    }

    private static void people() {
        FourOnOne x = Due.housed(HOUSE);
        int[][] rows = {{0, 0, 9}, {0, 1, 20}, {0, 2, 0}, {0, 3, 0}, {0, 4, -1}, {0, 9, -1}, {0, 10, 3}, {0, 11, 0},
            {0, 13, -1}, {1, 0, 0}, {1, 1, 23}, {1, 2, 1}, {1, 11, 5}, {1, 12, 7}, {2, 0, -1}, {-1, 0, -1}, {0, -1, -1}};
        for (int[] row : rows) {
            due.is("person " + row[0] + " " + row[1], x.person(row[0], row[1]), row[2]);
        }
        x.show(0, 0);
        x.show(0, 1);
        due.is("hours in which he saw", x.person(0, 3), 2);
        x.press(1, 0);
        due.is("presses no more", x.person(1, 2), 0);
        FourOnOne y = Due.housed("kind k;film f parts 9 is k 1;person p at 0 to 23;");
        Due.on(y, Due.checked(0, 0, 0, 0, 0, 0, 0, 0, 0, 0, 39, 14, 0));
        due.is("9998", y.person(0, 3), 9998);
        y.show(0, 0);
        y.show(0, 0);
        due.is("9999 at most", y.person(0, 3), 9999);
        y.hours(1);
        due.is("9999 still", y.person(0, 3), 9999);
        due.is("together", y.has(7), 9999);
    }

    private static void profiles() {
        FourOnOne x = Due.housed(HOUSE);
        // p goes by the account's profile, q by his own.
        x.show(0, 1);
        x.show(1, 0);
        x.show(1, 0);
        int[][] tastes = {{-1, 0, 0}, {-1, 1, 4}, {-1, 2, 2}, {0, 0, 0}, {0, 1, 0}, {1, 0, 10}, {1, 1, 0}, {2, 0, -1},
            {-2, 0, -1}, {-1, 3, -1}, {-1, -1, -1}, {Integer.MIN_VALUE, 0, -1}};
        for (int[] row : tastes) {
            due.is("taste " + row[0] + " " + row[1], x.taste(row[0], row[1]), row[2]);
        }
        int[][] seen = {{-1, 0, 0}, {-1, 1, 1}, {0, 0, 0}, {0, 1, 0}, {1, 0, 2}, {1, 1, 0}, {2, 0, -1}, {-2, 0, -1},
            {-1, 2, -1}, {-1, -1, -1}};
        for (int[] row : seen) {
            due.is("seen " + row[0] + " " + row[1], x.seen(row[0], row[1]), row[2]);
        }
    }

    private static void suggested() {
        FourOnOne x = Due.housed(HOUSE);
        due.is("of like scores the first", x.suggest(0), 0);
        due.is("free or not", x.suggest(1), 0);
        x.show(0, 1);
        due.is("the greater score", x.suggest(0), 1);
        due.is("by his own profile", x.suggest(1), 0);
        x.show(0, 1);
        x.show(0, 1);
        due.is("not all parts seen", x.suggest(0), 0);
        x.show(0, 0);
        x.show(0, 0);
        due.is("none", x.suggest(0), -1);
        x.press(0, 1);
        due.is("by his own, once he presses", x.suggest(0), 0);
        due.is("none such", x.suggest(2), -1);
        due.is("none below", x.suggest(-1), -1);
        FourOnOne y = Due.housed("kind k;kind l;film a parts 2 is k 1;film b parts 9 is l 1;person p at 0 to 1;"
            + "may parts>2 and hour<2 and [seen=0 or score>0 and score<4];");
        due.is("may: parts", y.suggest(0), 1);
        y.show(0, 1);
        due.is("may: score 2", y.suggest(0), 1);
        y.show(0, 1);
        due.is("may: score 3", y.suggest(0), 1);
        y.show(0, 1);
        due.is("may: score 4", y.suggest(0), -1);
        y.undo();
        due.is("may: before", y.suggest(0), 1);
        y.hours(1);
        y.undo();
        due.is("may: hour 0", y.suggest(0), 1);
        FourOnOne z = Due.housed("kind k;film a parts 2 is k 1;person p at 0 to 23;may hour>1;");
        due.is("may: not yet", z.suggest(0), -1);
        due.is("may: none seen", z.hours(2), 0);
        due.is("may: now", z.suggest(0), 0);
        // The best that may be, not the best.
        FourOnOne w = Due.housed("kind k;kind l;film a parts 9 is k 1;film b parts 9 is l 9;person p at 0 to 23;may score<3;");
        w.show(0, 1);
        due.is("may: the best may not", w.suggest(0), 0);
    }

    /** What a formula of may comes to: may F=N lets the film be suggested. */
    private static void holds(String test, boolean want) {
        FourOnOne x = Due.housed("kind k;film f parts 3 is k 1;person p at 0 to 23;may " + test + ";");
        due.is(test, x.suggest(0) == 0, want);
    }

    private static void formulas() {
        holds("1+2*3=7", true);
        holds("(1+2)*3=9", true);
        holds("10-3-2=5", true);
        holds("10-3+2=9", true);
        holds("7/2*2=6", true);
        holds("7*2/4=3", true);
        holds("0-7/2=0-3", true);
        holds("(0-7)/2=0-4", true);
        holds("(0-7)/2+4=0", true);
        holds("7/(0-2)+4=0", true);
        holds("(0-8)/2+4=0", true);
        holds("5/0=0", true);
        holds("(0-5)/(1-1)=0", true);
        holds("9999*9999=1000*1000", true);
        holds("9999*9999+1=1000*1000", true);
        holds("9999*9999-1=1000*1000-1", true);
        holds("1000*1000+1-1=1000*1000-1", true);
        holds("0-9999*9999=0-1000*1000", true);
        holds("(0-9999*9999)-5=0-1000*1000", true);
        holds("(0-9999*9999)-5+5>0-1000*1000", true);
        holds("(0-9999)*9999=0-1000*1000", true);
        holds("999*1001=1000*1000-1", true);
        holds("999*1001-9999*100=99", true);
        holds("min(3,5)=3 and max(3,5)=5 and min(5,3)=3 and max(5,3)=5", true);
        holds("max(min(1,2),min(4,3))=3", true);
        holds("1<1 or 1>1", false);
        holds("1<2 and 2>1 and 2=2", true);
        holds("2<1 or 1>2 or 1=2", false);
        holds("all", true);
        holds("not all", false);
        holds("not not all", true);
        holds("not all or all", true);
        holds("all or all and not all", true);
        holds("[all or all]and not all", false);
        holds("not [all and not all]", true);
        holds("not 1=2 and 1=1", true);
        holds("parts=3 and seen=0 and score=1 and hour=0", true);
        holds("0009=9", true);
    }

    private static void worths() {
        FourOnOne x = Due.housed(HOUSE);
        int[][] rows = {{0, 0, 15}, {0, 1, 0}, {1, 0, 0}, {1, 1, 34}, {2, 0, -1}, {-1, 0, -1}, {0, 2, -1}, {0, -1, -1}};
        for (int[] row : rows) {
            due.is("worth " + row[0] + " " + row[1], x.worth(row[0], row[1]), row[2]);
        }
    }
}
