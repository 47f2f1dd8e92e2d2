/** Promises 1, 2, 3, 36: a new object, the tape, what is refused. */
public final class TapeTest {
    private static final Due due = new Due("TapeTest");

    public static void main(String[] args) {
        newObject();
        feeds();
        ends();
        refusals();
        due.end();
    }

    private static void newObject() {
        FourOnOne x = new FourOnOne();
        int[] has = {0, 0, 0, 5, 0, 0, 0, 0, 0, 0, 0};
        for (int what = 0; what < has.length; what++) {
            due.is("new: has " + what, x.has(what), has[what]);
        }
        due.is("new: fault", x.fault(0), 0);
        due.is("new: place", x.fault(1), -1);
        due.is("new: taste", x.taste(-1, 0), -1);
        due.is("new: octet", x.octet(0), -1);
        due.is("new: sets", x.pressed(0), 1);
        due.is("new: rest", x.rest(48), 0);
        due.is("new: undo", x.undo(), false);
        due.is("new: two constants", FourOnOne.NONE == -1 && FourOnOne.NOTHING == -1000000000000000L, true);
        FourOnOne other = Due.housed("kind k;");
        due.is("new: objects are apart", x.has(0) * 10 + other.has(0), 1);
    }

    private static void feeds() {
        FourOnOne x = new FourOnOne();
        // "kind", " ab;", and so on: the highest byte is the first.
        due.is("feed: first", x.feed(0x6b696e64, 0x2061623b, 0x6b696e64, 0x0a636464, 0x3b202020), 20);
        due.is("feed: house", x.house(), 2);
        due.is("feed: letter 0", x.letter(0, 0, 0), 1);
        due.is("feed: letter 1", x.letter(0, 0, 1), 2);
        due.is("feed: of the second", x.letter(0, 1, 2), 4);
        for (int k = 1; k <= 80; k++) {
            due.is("feed: grows", x.feed(0x20202020, 0x20202020, 0x20202020, 0x20202020, 0x20202020), 20 * k);
        }
        due.is("feed: none is refused yet", x.status(0), 0);
        due.is("feed: over 1600", x.feed(1, 2, 3, 4, 5), -1);
        due.is("feed: is refused", x.status(0), 1);
        due.is("feed: 1581 bytes", x.end(1581), true);
        due.is("feed: 1601 would be too many", x.feed(1, 2, 3, 4, 5), -1);
        due.is("feed: 1580 bytes", x.end(1580), true);
        due.is("feed: 1600 are not", x.feed(0x20202020, 0x20202020, 0x20202020, 0x20202020, 0x20202020), 1600);
        due.is("feed: the refused bytes are not there", x.house(), 0);
        // A byte of 128 and more, of a number below 0 too.
        due.is("feed: high bytes", x.feed(0x000000b0, 0, 0, 0, 0), 20);
        due.is("feed: four of them", x.end(4), true);
        due.is("feed: the last byte is 176", x.on(), true);
        x.feed(0x00070300 | 200, -1, -1, -1, -1);
        x.end(4);
        due.is("feed: day 7, hour 3", x.on(), true);
        x.feed(-1, -1, -1, -1, -1);
        x.house();
        due.is("feed: 255 is no blank", x.fault(0) * 100 + x.fault(1), 100);
    }

    private static void ends() {
        FourOnOne x = new FourOnOne();
        due.is("end: nothing of nothing", x.end(0), true);
        due.is("end: more than nothing", x.end(1), false);
        due.is("end: below 0", x.end(-1), false);
        due.is("end: far below 0", x.end(Integer.MIN_VALUE), false);
        Due.feed(x, "kind k;kind l;");
        due.is("end: one too many", x.end(15), false);
        due.is("end: all", x.end(14), true);
        due.is("end: the first seven", x.end(7), true);
        due.is("end: those behind are gone", x.end(8), false);
        due.is("end: the first stay", x.house(), 1);
        due.is("end: the tape went", x.end(1), false);
        due.is("end: refused", x.status(0), 6);
    }

    private static void refusals() {
        FourOnOne x = Due.housed("kind k;film f parts 1 is k 1;person p at 0 to 23;");
        for (int what = 0; what <= 5; what++) {
            due.is("status: none yet, " + what, x.status(what), 0);
        }
        due.is("status: below", x.status(-1), -1);
        due.is("status: above", x.status(6), -1);
        x.end(1);
        x.end(-1);
        Due.house(x, "x");
        x.tell();
        Due.tell(x, 0, 1, 0);
        x.press(0, 0);
        x.press(1, 1);
        x.show(0, 1);
        x.show(9, 0);
        x.hours(0);
        x.hours(101);
        x.chance(0);
        x.chance(101);
        x.hours(-1);
        x.undo();
        x.seed(-1);
        x.on();
        int[] counts = {2, 3, 4, 5, 1, 2};
        for (int what = 0; what <= 5; what++) {
            due.is("status " + what, x.status(what), counts[what]);
        }
        // What answers NONE without being refused, and what is done, does not count.
        x.has(99);
        x.rest(99);
        x.pressed(9);
        x.octet(9);
        Due.ask(x, 0, "what");
        Due.ask(x, 7, "often all");
        x.press(0, 1);
        x.show(0, 0);
        x.hours(1);
        x.chance(1);
        x.undo();
        x.seed(0);
        for (int what = 0; what <= 5; what++) {
            due.is("status still " + what, x.status(what), counts[what]);
        }
    }
}
