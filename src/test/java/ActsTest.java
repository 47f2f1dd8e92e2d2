/** Promises 14, 26 to 31: hours, and what is kept, shown, drawn, undone. */
public final class ActsTest {
    private static final Due due = new Due("ActsTest");
    private static final String TWO = "kind k;film f parts 3 is k 2;person p at 0 to 23;person q at 0 to 23;likes p k 4;likes q k 1;";

    public static void main(String[] args) {
        hour();
        screens();
        learning();
        learningNothing();
        fading();
        keeping();
        rings();
        presses();
        shows();
        hours();
        chances();
        undoes();
        seeds();
        due.end();
    }

    private static void hour() {
        FourOnOne x = Due.housed("kind k;kind l;film f parts 1 is k 2;film g parts 2 is l 3;"
            + "person p at 1 to 2;person q at 2 to 3;");
        due.is("none is free", x.hours(1), 0);
        due.is("from the first hour", x.hours(1), 1);
        due.is("p saw f", x.seen(-1, 0), 1);
        // p sees g now, q the second part of it: person by person.
        due.is("both", x.hours(1), 2);
        due.is("g is seen", x.seen(-1, 1), 2);
        due.is("p saw", x.person(0, 3), 2);
        due.is("q saw", x.person(1, 3), 1);
        due.is("nothing is left", x.hours(1), 0);
        x.press(1, 1);
        due.is("hour 4: q is free no more", x.hours(1), 0);
        x.hours(21);
        due.is("q on the next day", x.hours(2), 2);
        due.is("the account's stays", x.seen(-1, 0), 1);
        due.is("q's own", x.seen(1, 0) * 10 + x.seen(1, 1), 11);
        due.is("day", x.has(4) * 100 + x.has(5), 104);
    }

    private static void screens() {
        FourOnOne x = Due.housed("kind k;film f parts 9 is k 1;person a at 0 to 23;person b at 0 to 23;person c at 0 to 23;"
            + "person d at 0 to 23;person e at 0 to 23;screens 2;");
        due.is("two of five", x.hours(1), 2);
        due.is("a and b", x.person(0, 3) * 10 + x.person(1, 3), 11);
        due.is("not c", x.person(2, 3), 0);
        due.is("four times", x.hours(3), 6);
        due.is("one part is left", x.hours(2), 1);
        FourOnOne y = Due.housed("kind k;film f parts 9 is k 1;person a at 0 to 23;person b at 0 to 23;person c at 0 to 23;"
            + "person d at 0 to 23;person e at 0 to 23;");
        due.is("five without", y.hours(1), 5);
        y.show(0, 0);
        due.is("a show is no screen's", y.hours(1), 3);
    }

    private static void learning() {
        FourOnOne x = Due.housed("kind k;kind l;film f parts 9 is k 2 l 5;person p at 0 to 23;learns weight*100-taste/2+hour;");
        x.hours(1);
        due.is("k: 200", x.taste(-1, 0), 200);
        due.is("l: 500", x.taste(-1, 1), 500);
        x.hours(1);
        due.is("k: 200 + 200 - 100 + 1", x.taste(-1, 0), 301);
        due.is("l: 500 + 500 - 250 + 1", x.taste(-1, 1), 751);
        x.hours(1);
        due.is("k: 301 + 200 - 150 + 2", x.taste(-1, 0), 353);
        due.is("l: 751 + 500 - 375 + 2", x.taste(-1, 1), 878);
        x.hours(4);
        due.is("l: cut at 999", x.taste(-1, 1), 999);
        FourOnOne y = Due.housed("kind k;kind l;film f parts 9 is k 9;person p at 0 to 23;learns 5-taste*2;");
        y.hours(1);
        due.is("5", y.taste(-1, 0), 5);
        due.is("a kind that the film is not of", y.taste(-1, 1), 0);
        y.hours(1);
        due.is("below is nothing: 5 - 10", y.taste(-1, 0), 5);
        due.is("two parts are seen", y.seen(-1, 0), 2);
        FourOnOne z = Due.housed("kind k;film f parts 9 is k 7;person p at 0 to 23;");
        z.hours(2);
        due.is("by how much it is without", z.taste(-1, 0), 14);
        z.hours(3);
        due.is("no fading without", z.taste(-1, 0), 35);
    }

    /** A sum of learns below 0 is nothing, wherever a part is seen: no taste becomes less by it. */
    private static void learningNothing() {
        String house = "kind k;kind l;film f parts 9 is k 9 l 1;film g parts 9 is l 8;person p at 0 to 23;";
        FourOnOne x = Due.housed(house + "learns weight-5;");
        x.show(0, 1);
        due.is("g: 8 - 5", x.taste(-1, 1), 3);
        x.show(0, 0);
        due.is("f, kind by kind: 9 - 5", x.taste(-1, 0), 4);
        due.is("1 - 5 is nothing", x.taste(-1, 1), 3);
        FourOnOne y = Due.housed(house + "press p;learns 5-taste*2;");
        y.show(0, 0);
        due.is("by his own", y.taste(0, 0) * 10 + y.taste(0, 1), 55);
        y.show(0, 0);
        due.is("show", y.taste(0, 0) * 10 + y.taste(0, 1), 55);
        y.hours(3);
        due.is("hours", y.taste(0, 0) * 10 + y.taste(0, 1), 55);
        due.is("not the account's", y.taste(-1, 0) + y.taste(-1, 1), 0);
        FourOnOne z = Due.housed("kind k;film f parts 9 is k 1;learns 5-taste*2;strange 100;");
        due.is("strangers", z.chance(4), 4);
        due.is("chance", z.taste(-1, 0), 5);
        FourOnOne w = Due.housed("kind k;film f parts 9 is k 1;person p at 0 to 23;learns 0-9999*9999;fades taste+7;");
        w.hours(3);
        due.is("far below; fades goes on", w.taste(-1, 0), 21);
        FourOnOne v = Due.housed("kind k;film f parts 9 is k 1;person p at 0 to 23;learns 9999*9999;");
        v.hours(1);
        due.is("far above", v.taste(-1, 0), 999);
    }

    private static void fading() {
        FourOnOne x = Due.housed("kind k;kind l;film f parts 1 is k 9;person p at 0 to 23;person q at 3 to 3;"
            + "press q;fades taste*2+hour-1;");
        x.hours(1);
        due.is("after what is seen: 9 * 2 + 0 - 1", x.taste(-1, 0), 17);
        due.is("below is nothing", x.taste(-1, 1), 0);
        x.hours(1);
        due.is("17 * 2 + 1 - 1", x.taste(-1, 0), 34);
        x.hours(1);
        due.is("34 * 2 + 2 - 1", x.taste(-1, 0), 69);
        due.is("of each profile", x.taste(0, 0), 1);
        due.is("of q's", x.taste(1, 1), 1);
        x.hours(5);
        due.is("cut", x.taste(-1, 0), 999);
        x.show(1, 0);
        due.is("a show fades nothing", x.has(5), 8);
        int taste = x.taste(0, 0);
        x.show(0, 0);
        due.is("p's stays", x.taste(0, 0), taste);
    }

    private static void keeping() {
        FourOnOne x = Due.housed(TWO + "screens 1;");
        due.is("nothing kept", x.kept(0, 0), -1);
        x.hours(1);
        x.show(1, 0);
        x.hours(24);
        int[][] rows = {{0, 0, 0, 0}, {0, 1, 1, 0}, {0, 1, 0, 0}};
        due.is("three", x.has(8), 3);
        for (int k = 0; k < 3; k++) {
            for (int what = 0; what < 4; what++) {
                due.is("kept " + k + " " + what, x.kept(k, what), rows[k][what]);
            }
        }
        due.is("no 4th", x.kept(3, 0), -1);
        due.is("none below", x.kept(-1, 0), -1);
        due.is("none for others", x.kept(0, 4), -1);
        due.is("none for those below", x.kept(0, -1), -1);
        x.press(1, 1);
        x.show(1, 0);
        due.is("the next day", x.kept(3, 0) * 100 + x.kept(3, 1), 101);
        due.is("his own profile", x.kept(3, 2) * 10 + x.kept(3, 3), 10);
    }

    /** More than 40 are seen, and undone. */
    private static void rings() {
        FourOnOne x = Due.housed("kind k;film a parts 9 is k 9;film b parts 9 is k 8;film c parts 9 is k 7;film d parts 9 is k 6;"
            + "film e parts 9 is k 5;film f parts 9 is k 4;person p at 0 to 23;");
        x.hours(38);
        due.is("38", x.has(8), 38);
        due.is("the oldest", x.kept(0, 1), 0);
        x.hours(2);
        due.is("40", x.has(8), 40);
        x.hours(3);
        due.is("40 still", x.has(8), 40);
        due.is("the 4th is the oldest", x.kept(0, 1), 3);
        due.is("the latest", x.kept(39, 0) * 100 + x.kept(39, 1), 118);
        due.is("no 41st", x.kept(40, 0), -1);
        due.is("the film of the oldest", x.kept(0, 3), 0);
        due.is("the film of the latest", x.kept(39, 3), 4);
        x.undo();
        due.is("the first is back", x.kept(0, 1), 0);
        due.is("the latest is back", x.kept(39, 1), 15);
        x.undo();
        due.is("38 again", x.has(8), 38);
        due.is("p's hours", x.person(0, 3), 38);
    }

    private static void presses() {
        FourOnOne x = Due.housed(TWO);
        due.is("not yet", x.press(0, 0), false);
        due.is("presses", x.press(0, 1), true);
        due.is("so already", x.press(0, 1), false);
        due.is("others", x.press(1, 2), false);
        due.is("others below", x.press(1, -1), false);
        due.is("none such", x.press(2, 1), false);
        due.is("none below", x.press(-1, 1), false);
        due.is("far away", x.press(32, 0), false);
        due.is("one presses", x.person(0, 2) * 10 + x.person(1, 2), 10);
        due.is("no more", x.press(0, 0), true);
        due.is("none presses", x.has(6), 0);
        due.is("refused", x.status(2), 7);
        due.is("acts", x.has(10), 2);
        x.hours(1);
        x.press(1, 1);
        due.is("the own profile is as it was", x.taste(1, 0) + x.seen(1, 0), 0);
    }

    private static void shows() {
        FourOnOne x = Due.housed("kind k;film f parts 3 is k 2;film g parts 1 is k 1;person p at 5 to 5;person q at 0 to 23;"
            + "likes p k 4;likes q k 1;bother 9;may seen>9;screens 1;press q;");
        due.is("by its worth", x.show(0, 0), 8);
        due.is("less bother", x.show(1, 0), -7);
        due.is("g to q", x.show(1, 1), -8);
        due.is("all parts are seen", x.show(1, 1), FourOnOne.NOTHING);
        due.is("not by p's profile", x.show(0, 1), 4);
        due.is("none such", x.show(2, 0), FourOnOne.NOTHING);
        due.is("no film", x.show(0, 2), FourOnOne.NOTHING);
        due.is("below", x.show(-1, 0), FourOnOne.NOTHING);
        due.is("film below", x.show(0, -1), FourOnOne.NOTHING);
        due.is("refused", x.status(2), 5);
        due.is("no hour went by", x.has(4) + x.has(5), 0);
        due.is("hours in which they saw", x.person(0, 3) * 10 + x.person(1, 3), 22);
        due.is("tastes", x.taste(-1, 0) * 10 + x.taste(1, 0), 33);
        due.is("acts", x.has(10), 4);
    }

    private static void hours() {
        FourOnOne x = Due.housed(TWO);
        due.is("0", x.hours(0), -1);
        due.is("101", x.hours(101), -1);
        due.is("-1", x.hours(-1), -1);
        due.is("refused", x.status(3), 3);
        due.is("no act", x.has(10), 0);
        due.is("100", x.hours(100), 3);
        due.is("day 4", x.has(4) * 100 + x.has(5), 404);
        FourOnOne y = Due.housed("kind k;film f parts 9 is k 1;person p at 0 to 23;");
        due.is("day 999, hour 21", Due.on(y, Due.checked(3, 231, 21, 0, 0, 0, 0, 0, 0, 0, 0, 0, 0)), true);
        due.is("3 can't be", y.hours(3), -1);
        due.is("nor drawn", y.chance(3), -1);
        due.is("2 can", y.hours(2), 2);
        due.is("hour 23", y.has(4) * 100 + y.has(5), 99923);
        due.is("no more", y.hours(1), -1);
        due.is("no more drawn", y.chance(1), -1);
        due.is("a show can", y.show(0, 0), 0);
    }

    private static long seed;

    private static long draw(int m) {
        seed = (1103515245L * seed + 12345L) % 2147483648L;
        return seed / 64 % m;
    }

    private static void chances() {
        // The seed is 1 at first; its first draw of 100 is 18.
        seed = 1;
        due.is("18", draw(100), 18);
        String house = "kind k;film f parts 9 is k 2;film g parts 9 is k 1;film h parts 9 is k 1;person p at 5 to 5;";
        due.is("18 is below 19", Due.housed(house + "strange 19;").chance(1), 1);
        due.is("18 is not below 18", Due.housed(house + "strange 18;").chance(1), 0);
        FourOnOne x = Due.housed(house + "strange 60;");
        x.seed(12345);
        seed = 12345;
        int strangers = 0;
        int[] seen = new int[3];
        int rows = 0;
        due.is("0", x.chance(0), -1);
        due.is("101", x.chance(101), -1);
        int[][] kept = new int[64][];
        for (int hour = 0; hour < 24; hour++) {
            if (draw(100) < 60) {
                int film = (int) draw(3);
                if (seen[film] < 9) {
                    seen[film]++;
                    strangers++;
                    kept[rows++] = new int[] {0, hour, 9, film};
                }
            }
            if (hour == 5) {
                kept[rows++] = new int[] {0, hour, 0, -1};
            }
        }
        due.is("strangers of a day", x.chance(24), strangers);
        due.is("one act", x.has(10), 1);
        due.is("rows", x.has(8), rows);
        due.is("p saw one", x.has(7), 1);
        for (int k = 0; k < rows; k++) {
            for (int what = 0; what < (kept[k][2] == 9 ? 4 : 3); what++) {
                due.is("kept " + k + " " + what, x.kept(k, what), kept[k][what]);
            }
        }
        int all = 0;
        for (int film = 0; film < 3; film++) {
            all += x.seen(-1, film);
        }
        due.is("all parts by the account's profile", all, strangers + 1);
        due.is("its tastes", x.taste(-1, 0) >= strangers + 1, true);
        due.is("p's profile", x.taste(0, 0), 0);
        // Of one part: the second stranger finds all seen, the draws go on.
        FourOnOne y = Due.housed("kind k;film f parts 1 is k 2;strange 100;");
        due.is("one stranger", y.chance(3), 1);
        due.is("of the account's profile", y.seen(-1, 0), 1);
        // Without films one draw an hour.
        FourOnOne w = Due.housed("strange 100;");
        due.is("no film, no stranger", w.chance(2), 0);
        seed = 1;
        draw(100);
        draw(100);
        long third = draw(100);
        Due.house(w, "kind k;film f parts 9 is k 1;strange " + (third + 1) + ";");
        due.is("the third draw is below", w.chance(1), 1);
        FourOnOne z = new FourOnOne();
        z.chance(2);
        Due.house(z, "kind k;film f parts 9 is k 1;strange " + third + ";");
        due.is("the third draw is not below itself", z.chance(1), 0);
        // A stranger needs no screen.
        FourOnOne v = Due.housed("kind k;film f parts 9 is k 1;person p at 0 to 23;screens 1;strange 100;");
        due.is("a stranger", v.chance(1), 1);
        due.is("and p", v.has(7), 1);
        due.is("the stranger first", v.kept(0, 2) * 10 + v.kept(1, 2), 90);
        due.is("both in one profile", v.taste(-1, 0), 2);
    }

    private static void undoes() {
        FourOnOne x = Due.housed("kind k;film f parts 9 is k 2;person p at 0 to 23;likes p k 1;strange 50;fades taste*9/10;");
        due.is("none", x.undo(), false);
        due.is("refused", x.status(4), 1);
        x.hours(3);
        int taste = x.taste(-1, 0);
        x.press(0, 1);
        x.show(0, 0);
        x.chance(5);
        due.is("four acts", x.has(10), 4);
        due.is("chance", x.undo(), true);
        due.is("hour 3", x.has(5), 3);
        due.is("show", x.undo(), true);
        due.is("p's own", x.seen(0, 0) + x.taste(0, 0), 0);
        due.is("saw", x.person(0, 3), 3);
        due.is("press", x.undo(), true);
        due.is("no more", x.person(0, 2), 0);
        due.is("taste", x.taste(-1, 0), taste);
        due.is("hours", x.undo(), true);
        due.is("all as at first", x.has(5) + x.has(7) + x.has(8) + x.has(10) + x.taste(-1, 0) + x.seen(-1, 0), 0);
        due.is("no more", x.undo(), false);
        // What is told stays, what was refused too.
        Due.tell(x, 0, 0, 1);
        x.hours(1);
        x.undo();
        due.is("told", x.has(9), 1);
        for (int k = 0; k < 25; k++) {
            x.hours(1);
        }
        due.is("20", x.has(10), 20);
        for (int k = 0; k < 20; k++) {
            due.is("undo " + k, x.undo(), true);
        }
        due.is("the last 20 alone", x.undo(), false);
        due.is("five stay", x.has(5), 5);
        x.press(0, 1);
        due.is("one again", x.has(10), 1);
        due.is("undone", x.undo() && x.person(0, 2) == 0, true);
    }

    private static void seeds() {
        FourOnOne x = Due.housed("kind k;film f parts 9 is k 1;strange 50;");
        due.is("below 0", x.seed(-1), false);
        due.is("far below", x.seed(Integer.MIN_VALUE), false);
        due.is("refused", x.status(5), 2);
        due.is("0", x.seed(0), true);
        due.is("the greatest", x.seed(Integer.MAX_VALUE), true);
        seed = Integer.MAX_VALUE;
        for (int k = 0; k < 15; k++) {
            boolean stranger = draw(100) < 50;
            if (stranger) {
                draw(1);
            }
            due.is("draw " + k, x.chance(1), stranger ? 1 : 0);
            // The seed stays where it is.
            x.undo();
        }
        due.is("no act", x.has(10), 0);
    }
}
