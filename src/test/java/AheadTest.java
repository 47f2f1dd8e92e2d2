/** Promises 15 to 20: what lies ahead. */
public final class AheadTest {
    private static final Due due = new Due("AheadTest");
    private static final long NOTHING = FourOnOne.NOTHING;
    private static final String TWO = "kind k;film f parts 3 is k 2;person p at 0 to 23;person q at 0 to 23;"
        + "likes p k 4;likes q k 1;";

    public static void main(String[] args) {
        pleased();
        refused();
        pressing();
        rest();
        gone();
        sow();
        learningNothing();
        last();
        due.end();
    }

    private static void pleased() {
        FourOnOne x = Due.housed(TWO + "bother 3;strange 100;");
        long[] p = {0, 8, 16, 16};
        long[] q = {0, 2, 2, 2};
        for (int n = 0; n < 4; n++) {
            due.is("p " + n, x.pleased(0, n), p[n]);
            due.is("q " + n, x.pleased(1, n), q[n]);
        }
        due.is("72", x.pleased(0, 72), 16);
        due.is("73", x.pleased(0, 73), NOTHING);
        due.is("-1", x.pleased(0, -1), NOTHING);
        due.is("none such", x.pleased(2, 1), NOTHING);
        due.is("none below", x.pleased(-1, 1), NOTHING);
        due.is("no hour went by", x.has(5) + x.has(7) + x.has(8) + x.has(10) + x.taste(-1, 0) + x.seen(-1, 0), 0);
        x.press(1, 1);
        due.is("bother: 3 times 2 less 3", x.pleased(1, 10), -3);
        due.is("p sees all", x.pleased(0, 10), 24);
        x.hours(1);
        due.is("from now on", x.pleased(0, 1), 8);
        // Strangers are not ahead, and no draw is made.
        FourOnOne y = Due.housed(TWO + "strange 100;");
        y.pleased(0, 72);
        FourOnOne z = Due.housed(TWO + "strange 100;");
        due.is("the seed stays", y.chance(1), z.chance(1));
        // Fading, learning, may and the hour of the day count ahead, too.
        FourOnOne w = Due.housed("kind a;kind b;film f parts 9 is a 1;film g parts 9 is b 1;person p at 2 to 4;likes p a 1;"
            + "likes p b 5;may hour>2;learns 9;fades 0;");
        due.is("hours 3 and 4: f, f", w.pleased(0, 24), 2);
        due.is("and of the next day", w.pleased(0, 48), 4);
    }

    private static void refused() {
        FourOnOne x = Due.housed(TWO + "screens 1;");
        due.is("0", x.refused(1, 0), 0);
        due.is("1", x.refused(1, 1), 1);
        due.is("2", x.refused(1, 2), 2);
        due.is("nothing is suggested then", x.refused(1, 3), 2);
        due.is("72", x.refused(1, 72), 2);
        due.is("p", x.refused(0, 72), 0);
        due.is("73", x.refused(1, 73), -1);
        due.is("-1", x.refused(1, -1), -1);
        due.is("none such", x.refused(2, 1), -1);
        due.is("none below", x.refused(-1, 1), -1);
        x.press(1, 1);
        due.is("q by his own: three times", x.refused(1, 72), 3);
        FourOnOne y = Due.housed(TWO + "screens 1;person r at 1 to 1;");
        due.is("r is free in one hour", y.refused(2, 20), 1);
    }

    private static void pressing() {
        FourOnOne x = Due.housed(TWO + "bother 3;");
        long[] p = {0, 5 - 8, 10 - 16, 15 - 16};
        for (int n = 0; n < 4; n++) {
            due.is("p " + n, x.pressing(0, n), p[n]);
        }
        due.is("q", x.pressing(1, 3), -3 - 2);
        x.press(0, 1);
        due.is("p presses already", x.pressing(0, 3), 15 - 16);
        due.is("q, all others as they are", x.pressing(1, 3), -3 - 6);
        due.is("0 hours", x.pressing(0, 0), 0);
        due.is("72", x.pressing(0, 72), -1);
        due.is("73", x.pressing(0, 73), NOTHING);
        due.is("-1", x.pressing(0, -1), NOTHING);
        due.is("none such", x.pressing(2, 1), NOTHING);
        due.is("none below", x.pressing(-1, 1), NOTHING);
        due.is("he presses still", x.person(0, 2) * 10 + x.person(1, 2), 10);
    }

    private static void rest() {
        due.is("p would press, then q has no more by it", Due.housed(TWO).rest(3), 1);
        due.is("too much bother", Due.housed(TWO + "bother 3;").rest(3), 0);
        FourOnOne x = Due.housed(TWO);
        due.is("0", x.rest(0), 0);
        due.is("48", x.rest(48), 1);
        due.is("49", x.rest(49), -1);
        due.is("-1", x.rest(-1), -1);
        x.press(1, 1);
        due.is("whoever presses now", x.rest(3), 1);
        due.is("he presses still", x.person(1, 2), 1);
        // One part for two: one of them presses, and each sees a part.
        due.is("of like ones the least bits", Due.housed("kind k;film f parts 1 is k 1;person p at 0 to 23;person q at 0 to 23;"
            + "likes p k 1;likes q k 1;").rest(1), 1);
        // Worked out by hand: in each of the eight sets one would do otherwise.
        FourOnOne y = Due.housed("kind a;film f parts 1 is a 2;film g parts 1 is a 4;person p at 2 to 4;person q at 1 to 4;"
            + "person r at 0 to 23;likes p a 5;likes q a 4;likes r a 9;bother 7;");
        due.is("no set is", y.rest(5), -1);
        due.is("in one hour there is", y.rest(1), 0);
        // Where p and q press, r has all parts of the account's profile; as well he has them, if he alone presses.
        due.is("the one of fewest, not of the least bits", Due.housed("kind a;film f parts 3 is a 3;person p at 0 to 23;"
            + "person q at 0 to 23;person r at 0 to 23;likes r a 9;").rest(3), 4);
        due.is("three of four", Due.housed("kind k;film f parts 1 is k 1;person p at 0 to 23;person q at 0 to 23;"
            + "person r at 0 to 23;person s at 0 to 23;likes p k 1;likes q k 1;likes r k 1;likes s k 1;").rest(1), 7);
        // For q pressing is worth no more than its bother: p alone does, whose bit is the greater.
        due.is("the second alone", Due.housed("kind k;film f parts 3 is k 2;person q at 0 to 23;person p at 0 to 23;"
            + "likes p k 4;likes q k 1;bother 2;").rest(3), 2);
    }

    private static void gone() {
        FourOnOne x = Due.housed("kind k;kind l;film f parts 1 is k 9;person p at 0 to 0;person q at 3 to 3;press q;"
            + "learns 72;fades taste-1;");
        due.is("now", x.gone(0, 0), 0);
        x.show(0, 0);
        due.is("72", x.gone(0, 0), 72);
        due.is("the other kind", x.gone(0, 1), 0);
        due.is("q by his own", x.gone(1, 0), 0);
        due.is("none such", x.gone(2, 0), -1);
        due.is("none below", x.gone(-1, 0), -1);
        due.is("no kind", x.gone(0, 2), -1);
        due.is("kind below", x.gone(0, -1), -1);
        x.hours(70);
        due.is("2", x.gone(0, 0), 2);
        x.press(0, 1);
        due.is("by his own, too", x.gone(0, 0), 0);
        due.is("q saw it in hour 3: 71 then, 66 hours ago", x.gone(1, 0), 5);
        FourOnOne y = Due.housed("kind k;film f parts 1 is k 9;person p at 0 to 0;learns 73;fades taste-1;");
        y.show(0, 0);
        due.is("73 is too far", y.gone(0, 0), -1);
        FourOnOne z = Due.housed("kind k;film f parts 1 is k 9;person p at 0 to 0;");
        z.show(0, 0);
        due.is("never", z.gone(0, 0), -1);
        // The first of several: it is seen again in hour 2.
        FourOnOne w = Due.housed("kind k;film f parts 2 is k 2;person p at 3 to 3;learns 1;fades 0;");
        w.show(0, 0);
        due.is("the first", w.gone(0, 0), 1);
    }

    private static void sow() {
        String kinds = "kind a;kind b;";
        FourOnOne x = Due.housed(kinds + "film x parts 1 is a 1;film y parts 9 is b 1;film z parts 9 is a 1;"
            + "person p at 0 to 23;likes p b 5;");
        due.is("y, by which y comes again", x.sow(0, 1), 1);
        due.is("of like ones the first", x.sow(0, 0), 0);
        due.is("10: behind y come eight more y, behind x or z first all of z", x.sow(0, 10), 1);
        due.is("72: all is seen", x.sow(0, 72), 0);
        due.is("73", x.sow(0, 73), -1);
        due.is("-1", x.sow(0, -1), -1);
        due.is("none such", x.sow(1, 1), -1);
        due.is("none below", x.sow(-1, 1), -1);
        due.is("none is shown", x.has(7) + x.has(8) + x.has(10) + x.taste(-1, 1), 0);
        x.show(0, 0);
        due.is("x can't be shown", x.sow(0, 0), 1);
        FourOnOne y = Due.housed(kinds + "film z parts 9 is a 1;film y parts 1 is b 9;person p at 0 to 23;"
            + "likes p b 9;likes p a 1;");
        due.is("what he has of it now does not count", y.sow(0, 1), 0);
        due.is("hour 0 comes behind what is shown", Due.housed(kinds + "film x parts 1 is a 1;film y parts 2 is b 1;"
            + "person p at 0 to 0;likes p b 5;may hour<1;").sow(0, 1), 0);
        due.is("y in hour 0 behind y", Due.housed(kinds + "film x parts 9 is a 1;film y parts 2 is b 1;"
            + "person p at 0 to 0;likes p b 5;").sow(0, 1), 1);
        FourOnOne z = Due.housed("kind a;film x parts 1 is a 1;person p at 0 to 23;");
        z.show(0, 0);
        due.is("none can be shown", z.sow(0, 1), -1);
        due.is("no film", Due.housed("person p at 0 to 23;").sow(0, 1), -1);
        // All that he has is below 0.
        FourOnOne w = Due.housed("kind a;film x parts 2 is a 1;film y parts 1 is a 1;person p at 0 to 23;press p;bother 5;");
        due.is("below 0, the most", w.sow(0, 3), 0);
    }

    /** Ahead, too, a sum of learns below 0 is nothing. */
    private static void learningNothing() {
        String house = "kind a;kind b;film f parts 9 is a 1;film g parts 9 is b 1;person p at 0 to 23;likes p b 5;"
            + "learns 5-taste*2;bother 1;";
        FourOnOne x = Due.housed(house);
        x.show(0, 1);
        due.is("never gone: it stays 5", x.gone(0, 1), -1);
        // If its taste went to 0 in the first hour, f would come in the second.
        due.is("pleased by g and g", x.pleased(0, 2), 10);
        due.is("eight of g, then f", x.pleased(0, 72), 40);
        due.is("pressing: f and f, less bother", x.pressing(0, 2), -2 - 10);
        Due.tell(x, 1, 1, 1);
        due.is("g in the second hour: he does not press", x.pressed(0) * 10 + x.pressed(2), 10);
        due.is("no hour went by", x.has(5) + x.has(10), 1);
        // Behind f come f, f, f, since its taste stays; if it went to 0, g would come, and h, h, h would be more than f alone.
        FourOnOne y = Due.housed("kind a;kind b;kind c;film g parts 9 is b 1;film f parts 9 is a 1;film h parts 9 is c 2;"
            + "person p at 0 to 23;likes p a 5;likes p c 1;learns weight*10-taste*2+weight/2*9000;");
        due.is("sown", y.sow(0, 3), 1);
        FourOnOne z = Due.housed("kind a;kind b;film f parts 9 is a 1;film g parts 2 is b 1;film h parts 2 is b 1;"
            + "person p at 0 to 23;likes p b 5;likes p a 1;learns 5-taste*2;");
        // Behind f: f, f. Behind g: g, h. Behind h: g, g.
        due.is("of like ones the first", z.sow(0, 2), 1);
        z.show(0, 2);
        due.is("g, g, h, then f", z.pleased(0, 4), 5 + 5 + 5 + 1);
    }

    private static void last() {
        FourOnOne x = Due.housed("kind k;film f parts 9 is k 1;person p at 0 to 23;likes p k 1;screens 1;fades taste-1;learns 3;");
        Due.on(x, Due.checked(3, 231, 20, 0, 9, 0, 0, 0, 0, 0, 0, 0, 0));
        due.is("3 hours", x.pleased(0, 3), 3);
        due.is("not 4", x.pleased(0, 4), NOTHING);
        due.is("refused 3", x.refused(0, 3), 0);
        due.is("refused not 4", x.refused(0, 4), -1);
        due.is("pressing 3", x.pressing(0, 3), 0);
        due.is("pressing not 4", x.pressing(0, 4), NOTHING);
        due.is("rest 3", x.rest(3), 0);
        due.is("rest not 4", x.rest(4), -1);
        due.is("sow 3", x.sow(0, 3), 0);
        due.is("sow not 4", x.sow(0, 4), -1);
        due.is("never gone", x.gone(0, 0), -1);
        FourOnOne y = Due.housed("kind k;film f parts 1 is k 1;person p at 0 to 0;fades taste-1;");
        Due.on(y, Due.checked(3, 231, 20, 0, 3, 0, 0, 0, 0, 0, 0, 0, 0));
        due.is("gone in the last hour", y.gone(0, 0), 3);
        Due.on(y, Due.checked(3, 231, 20, 0, 4, 0, 0, 0, 0, 0, 0, 0, 0));
        due.is("not beyond", y.gone(0, 0), -1);
    }
}
