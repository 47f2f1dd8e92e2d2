/** Promises 33, 34, 35: images. */
public final class ImageTest {
    private static final Due due = new Due("ImageTest");
    private static final String HOUSE = "kind a;kind b;film f parts 2 is a 5;film g parts 9 is b 9;person p at 0 to 23;"
        + "person q at 0 to 23;press q;";

    public static void main(String[] args) {
        written();
        read();
        refused();
        bounds();
        due.end();
    }

    private static void same(String call, int[] got, int... want) {
        due.is(call + ": bytes", got.length, want.length);
        for (int k = 0; k < Math.min(got.length, want.length); k++) {
            due.is(call + ": byte " + k, got[k], want[k]);
        }
    }

    private static void written() {
        FourOnOne x = new FourOnOne();
        due.is("none yet", x.octet(0), -1);
        // 53; 159; 477 is 226; 678 is 176.
        same("empty", Due.image(x), 0, 0, 0, 176);
        due.is("behind", x.octet(4), -1);
        due.is("ahead", x.octet(-1), -1);
        due.is("far behind", x.octet(Integer.MAX_VALUE), -1);
        Due.house(x, HOUSE + "learns 300;");
        due.is("the latest is as it was", x.octet(3), 176);
        x.hours(25);
        x.press(0, 1);
        int[] want = Due.checked(0, 1, 1, 2, 88, 3, 231, 2, 9, 0, 0, 0, 0, 0, 0, 2, 88, 3, 231, 2, 9, 1, 0, 11, 1, 0, 11, 0);
        same("a day", Due.image(x), want);
        due.is("behind a day", x.octet(want.length), -1);
        x.undo();
        due.is("till the next one", x.octet(21), 1);
        x.image();
        due.is("p does not press", x.octet(21), 0);
        FourOnOne y = Due.housed("kind k;");
        Due.on(y, Due.checked(3, 231, 23, 0, 0, 0));
        same("day 999", Due.image(y), Due.checked(3, 231, 23, 0, 0, 0));
        due.is("an image is no act", y.has(10), 0);
    }

    private static void read() {
        FourOnOne x = Due.housed(HOUSE);
        x.hours(3);
        Due.tell(x, 0, 0, 1);
        x.seed(5);
        int[] image = Due.checked(1, 4, 7, 0, 1, 2, 3, 1, 4, 3, 231, 0, 6, 2, 7, 0, 8, 0, 9, 0, 5, 1, 0, 12, 0, 2, 3, 0);
        due.is("on", Due.on(x, image), true);
        due.is("the tape went", x.end(1), false);
        int[] has = {2, 2, 2, 5, 260, 7, 1, 12 + 515, 0, 1, 0};
        for (int what = 0; what < has.length; what++) {
            due.is("has " + what, x.has(what), has[what]);
        }
        int[][] tastes = {{1, 515}, {999, 6}, {8, 9}};
        int[][] seen = {{1, 4}, {2, 7}, {0, 5}};
        for (int person = -1; person < 2; person++) {
            for (int k = 0; k < 2; k++) {
                due.is("taste " + person + " " + k, x.taste(person, k), tastes[person + 1][k]);
                due.is("seen " + person + " " + k, x.seen(person, k), seen[person + 1][k]);
            }
        }
        due.is("p presses", x.person(0, 2), 1);
        due.is("q does not", x.person(1, 2), 0);
        due.is("p's hours", x.person(0, 3), 12);
        due.is("q's hours", x.person(1, 3), 515);
        due.is("nothing kept", x.kept(0, 0), -1);
        due.is("nothing undone", x.undo(), false);
        due.is("the house stays", x.worth(0, 0) + x.film(1, 0), 9);
        x.image();
        for (int k = 0; k < image.length; k++) {
            due.is("again byte " + k, x.octet(k), image[k]);
        }
    }

    private static void no(FourOnOne x, String call, int... bytes) {
        int before = x.status(5);
        due.is(call, Due.on(x, bytes), false);
        due.is(call + ": refused", x.status(5), before + 1);
        due.is(call + ": the tape went", x.end(1), false);
    }

    private static void refused() {
        FourOnOne x = Due.housed(HOUSE);
        x.hours(2);
        int[] now = Due.image(x);
        no(x, "no bytes");
        no(x, "one too few", java.util.Arrays.copyOf(now, now.length - 1));
        no(x, "one too many", java.util.Arrays.copyOf(now, now.length + 1));
        int[] bad = now.clone();
        bad[now.length - 1] = (bad[now.length - 1] + 1) % 251;
        no(x, "the last byte", bad);
        bad = now.clone();
        bad[5] ^= 1;
        no(x, "another byte", bad);
        no(x, "of another house", Due.checked(0, 0, 0, 0));
        same("all stays", Due.image(x), now);
        due.is("kept stays", x.has(8), 4);
        due.is("acts stay", x.has(10), 1);
        due.is("and on", Due.on(x, now), true);
    }

    private static int[] with(int at, int byteThere) {
        int[] bytes = new int[14];
        bytes[at] = byteThere;
        return Due.checked(bytes);
    }

    private static int[] two(int at, int number) {
        int[] bytes = new int[14];
        bytes[at] = number / 256;
        bytes[at + 1] = number % 256;
        return Due.checked(bytes);
    }

    private static void bounds() {
        // Day, day, hour; taste, taste, seen, seen; the same of p; presses, hours, hours.
        FourOnOne x = Due.housed("kind k;film f parts 2 is k 5;person p at 0 to 23;");
        int[] good = new int[13];
        due.is("13 bytes", Due.on(x, Due.checked(good)), true);
        int[][] rows = {{0, 999, 1}, {0, 1000, 0}, {3, 999, 1}, {3, 1000, 0}, {6, 999, 1}, {6, 1000, 0}, {10, 9999, 1},
            {10, 10000, 0}, {0, 65535, 0}, {3, 65535, 0}, {10, 65535, 0}};
        for (int[] row : rows) {
            int[] bytes = new int[13];
            bytes[row[0]] = row[1] / 256;
            bytes[row[0] + 1] = row[1] % 256;
            due.is("two bytes " + row[0] + ": " + row[1], Due.on(x, Due.checked(bytes)), row[2] == 1);
        }
        int[][] ones = {{2, 23, 1}, {2, 24, 0}, {5, 2, 1}, {5, 3, 0}, {8, 2, 1}, {8, 3, 0}, {9, 1, 1}, {9, 2, 0}, {9, 255, 0}};
        for (int[] row : ones) {
            int[] bytes = new int[13];
            bytes[row[0]] = row[1];
            due.is("byte " + row[0] + ": " + row[1], Due.on(x, Due.checked(bytes)), row[2] == 1);
        }
        due.is("p presses by an image", Due.on(x, Due.checked(0, 0, 0, 0, 0, 0, 0, 0, 0, 1, 0, 0, 0)), true);
        x.hours(1);
        due.is("a look ahead", x.pleased(0, 5), 0);
        due.is("p does not by the next one", Due.on(x, Due.checked(0, 0, 0, 0, 0, 0, 0, 0, 0, 0, 0, 0, 0)), true);
        due.is("by none of what was ahead", x.person(0, 2) + x.has(8) + x.taste(0, 0), 0);
        due.is("and again", Due.on(x, Due.checked(0, 0, 0, 0, 0, 0, 0, 0, 0, 1, 0, 0, 0)), true);
        due.is("none of the refused is there", x.has(4) + x.has(5) + x.taste(-1, 0) + x.seen(-1, 0) + x.has(7), 0);
        due.is("the last good one is", x.person(0, 2), 1);
    }
}
