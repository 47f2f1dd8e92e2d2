/** Promises 21 to 25: who, sofas, shares, who pressed. */
public final class SofaTest {
    private static final Due due = new Due("SofaTest");

    public static void main(String[] args) {
        who();
        whoInHour0();
        sofa();
        share();
        tell();
        pressed();
        due.end();
    }

    private static void who() {
        FourOnOne x = Due.housed("kind k;film f parts 3 is k 2;film g parts 1 is k 9;person p at 4 to 23;person q at 5 to 6;"
            + "person r at 5 to 5;likes p k 4;likes q k 1;");
        int[][] rows = {{0, 0, 5, 692307}, {1, 0, 5, 230769}, {2, 0, 5, 76923}, {0, 0, 6, 750000}, {1, 0, 6, 250000},
            {2, 0, 6, 0}, {0, 0, 4, 1000000}, {1, 0, 4, 0}, {0, 0, 23, 1000000}, {0, 0, 3, -1}, {1, 0, 0, -1},
            {0, 0, 24, -1}, {0, 0, -1, -1}, {3, 0, 5, -1}, {-1, 0, 5, -1}, {0, 2, 5, -1}, {0, -1, 5, -1},
            {0, 1, 6, 787234}};
        for (int[] row : rows) {
            due.is("who " + row[0] + " " + row[1] + " " + row[2], x.who(row[0], row[1], row[2]), row[3]);
        }
    }

    private static void whoInHour0() {
        FourOnOne x = Due.housed("kind k;film f parts 3 is k 2;person p at 0 to 0;person q at 23 to 23;");
        due.is("hour 0: p", x.who(0, 0, 0), 1000000);
        due.is("hour 0: not q", x.who(1, 0, 0), 0);
        due.is("hour 23: q", x.who(1, 0, 23), 1000000);
        due.is("hour 1: none is free", x.who(0, 0, 1), -1);
        FourOnOne y = Due.housed("kind k;film f parts 3 is k 1;person p at 0 to 0;person q at 0 to 0;likes p k 1;");
        due.is("floor of two thirds", y.who(0, 0, 0), 666666);
        due.is("floor of a third", y.who(1, 0, 0), 333333);
    }

    private static void sofa() {
        // Of f, g, h: p 9 5 0, q 0 5 6, r 0 1 2.
        FourOnOne x = Due.housed("kind a;kind b;kind c;film f parts 1 is a 1;film g parts 1 is b 1;film h parts 1 is c 1;"
            + "person p at 0 to 23;person q at 0 to 23;person r at 0 to 23;likes p a 9;likes p b 5;likes q b 5;likes q c 6;"
            + "likes r b 1;likes r c 2;");
        int[][] rows = {{7, 2, 2}, {2, 2, 2}, {3, 2, 0}, {6, 2, 2}, {1, 2, 0}, {7, 0, 1}, {7, 1, 1}, {1, 0, 0}, {2, 0, 2}, {3, 0, 1}, {3, 1, 1}, {6, 0, 2},
            {6, 1, 2}, {5, 0, 0}, {5, 1, 1}, {5, 2, 0}, {4, 1, 2}, {0, 0, -1}, {8, 0, -1}, {-1, 0, -1}, {7, 3, -1},
            {7, -1, -1}, {Integer.MIN_VALUE, 0, -1}, {Integer.MAX_VALUE, 0, -1}};
        for (int[] row : rows) {
            due.is("sofa " + row[0] + " " + row[1], x.sofa(row[0], row[1]), row[2]);
        }
        x.show(0, 1);
        due.is("seen or not", x.sofa(7, 0), 1);
        due.is("no film", Due.housed("person p at 0 to 23;").sofa(1, 2), -1);
        FourOnOne y = Due.housed("kind a;film f parts 1 is a 1;film g parts 1 is a 1;person p at 0 to 23;");
        for (int rule = 0; rule <= 2; rule++) {
            due.is("of like ones the first, rule " + rule, y.sofa(1, rule), 0);
        }
    }

    private static void share() {
        String house = "kind k;film f parts 9 is k 1;person p at 0 to 23;person q at 0 to 23;person r at 0 to 23;";
        FourOnOne x = Due.housed(house + "price 100;");
        due.is("none saw any", x.share(0), -1);
        x.show(1, 0);
        due.is("q alone", x.share(1), 100);
        due.is("not p", x.share(0), 0);
        x.show(0, 0);
        x.show(1, 0);
        due.is("p: a third", x.share(0), 33);
        due.is("q: two, and what is left", x.share(1), 67);
        x.show(2, 0);
        x.show(2, 0);
        due.is("q, the first of most", x.share(1), 40);
        due.is("p: a fifth", x.share(0), 20);
        due.is("r as q", x.share(2), 40);
        due.is("none such", x.share(3), -1);
        due.is("none below", x.share(-1), -1);
        FourOnOne y = Due.housed(house + "price 11;");
        y.hours(1);
        due.is("3 and the 2 that are left", y.share(0), 5);
        due.is("3", y.share(1) * 10 + y.share(2), 33);
        FourOnOne z = Due.housed(house);
        z.hours(1);
        due.is("no price", z.share(0), 0);
    }

    private static final String TWO = "kind k;kind l;film f parts 2 is k 2;film g parts 1 is l 1;person p at 0 to 23;"
        + "person q at 1 to 23;";

    private static void tell() {
        FourOnOne x = Due.housed(TWO);
        due.is("no row", x.tell(), -1);
        due.is("one row", Due.tell(x, 0, 0, 1), 1);
        due.is("the tape went", x.end(1), false);
        due.is("rows", x.has(9), 1);
        int[] rows = new int[51];
        due.is("17 rows", Due.tell(x, rows), -1);
        due.is("16 rows", Due.tell(x, java.util.Arrays.copyOf(rows, 48)), 16);
        due.is("47 bytes", Due.tell(x, java.util.Arrays.copyOf(rows, 47)), -1);
        due.is("one byte", Due.tell(x, 0), -1);
        due.is("two bytes", Due.tell(x, 0, 0), -1);
        due.is("hour 24", Due.tell(x, 24, 0, 0), -1);
        due.is("the tape went, too", x.end(1), false);
        due.is("hour 23", Due.tell(x, 23, 1, 0, 22, 0, 0), 2);
        due.is("no such film", Due.tell(x, 0, 2, 0), -1);
        due.is("neither 1 nor 0", Due.tell(x, 0, 0, 2), -1);
        due.is("the second row", Due.tell(x, 0, 0, 1, 0, 9, 1), -1);
        due.is("all stays", x.has(9), 2);
        due.is("refused", x.status(1), 9);
        due.is("without films", Due.tell(Due.housed("kind k;"), 0, 0, 0), -1);
    }

    private static void sets(String told, FourOnOne x, int count, int all, int some) {
        due.is(told + ": sets", x.pressed(0), count);
        due.is(told + ": all", x.pressed(1), all);
        due.is(told + ": some", x.pressed(2), some);
    }

    private static void pressed() {
        // The account sees f in hour 0 by p. In hour 1: without any p sees f again (its last part), q sees g.
        // With p alone: p his f, q f. With q alone: p f, q f. With both: each his own f.
        FourOnOne x = Due.housed(TWO);
        sets("nothing", x, 4, 0, 3);
        Due.tell(x, 0, 0, 1);
        sets("f in hour 0", x, 4, 0, 3);
        Due.tell(x, 0, 1, 1);
        sets("g in hour 0", x, 0, 0, 0);
        Due.tell(x, 1, 1, 1);
        sets("g in hour 1", x, 1, 0, 0);
        Due.tell(x, 1, 1, 0);
        sets("no g in hour 1", x, 3, 0, 3);
        // Hour 2, p alone: p g, q f. q alone: p g, q f. Both: p g, q f. None: nothing is left.
        Due.tell(x, 2, 0, 1);
        sets("f in hour 2", x, 3, 0, 3);
        // Hour 3, p alone: the account's f is seen, q g. q alone: p nothing, q g. Both: q g.
        Due.tell(x, 3, 1, 1);
        sets("g in hour 3", x, 3, 0, 3);
        Due.tell(x, 1, 1, 0, 2, 1, 1);
        sets("and g in hour 2", x, 3, 0, 3);
        x.press(1, 1);
        sets("whoever presses now", x, 3, 0, 3);
        due.is("for others", x.pressed(3), -1);
        due.is("for others below", x.pressed(-1), -1);
        x.hours(1);
        Due.tell(x, 0, 1, 1);
        // p has seen the account's f, q nothing of his own. p pressing begins anew with f, q pressing with f.
        sets("g in the hour after", x, 1, 0, 0);
        x.show(0, 0);
        // By the account all of f is seen: only where both press none sees g.
        sets("g now that f is seen", x, 3, 0, 3);
        // One that must have pressed: parts of 1, the second to see it has pressed or the first has.
        FourOnOne y = Due.housed("kind k;film f parts 1 is k 2;person p at 0 to 23;person q at 1 to 1;person r at 2 to 2;");
        Due.tell(y, 1, 0, 1, 2, 0, 0);
        sets("p or q presses, r does not", y, 2, 0, 3);
        Due.tell(y, 1, 0, 1);
        sets("p or q presses", y, 6, 0, 7);
        Due.tell(y, 1, 0, 0, 2, 0, 1);
        sets("r alone", y, 1, 4, 4);
        due.is("he does not press", y.has(6), 0);
        due.is("no hour went by", y.has(5) + y.has(7), 0);
        FourOnOne z = Due.housed("kind k;film f parts 1 is k 2;");
        Due.on(z, Due.checked(3, 231, 22, 0, 0, 0, 0));
        sets("nothing told", z, 1, 0, 0);
        Due.tell(z, 0, 0, 0);
        sets("the last hour that passes", z, 1, 0, 0);
        Due.tell(z, 0, 0, 0, 1, 0, 0, 0, 0, 0);
        due.is("hour 23 can't pass", z.pressed(0), -1);
        due.is("nor for all", z.pressed(1), -1);
        due.is("nor for some", z.pressed(2), -1);
        due.is("the rows stay", z.has(9), 3);
    }
}
