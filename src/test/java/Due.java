/** Compares answers with those that are due, and feeds texts to a tape. */
final class Due {
    private final String name;
    private String sentence = "";
    private int sentences = 0;
    private int asked = 0;
    private int wrong = 0;

    Due(String name) {
        this.name = name;
    }

    /** The sentence of the document by which the next answers are due. */
    void by(String words) {
        sentence = " by \"" + words + "\"";
        sentences++;
    }

    void is(String call, long got, long want) {
        asked++;
        if (got != want) {
            wrong++;
            System.out.println(name + ": " + call + " answered " + got + ", due is " + want + sentence);
        }
    }

    /** That all which the object tells is as it was. */
    void stays(String call, FourOnOne x, String before) {
        String after = Whole.of(x);
        is(call + " changed " + before + " to " + after, before.equals(after), true);
    }

    void is(String call, boolean got, boolean want) {
        is(call, got ? 1 : 0, want ? 1 : 0);
    }

    void end() {
        String told = sentences == 0 ? "" : " by " + sentences + " sentences";
        System.out.println(name + ": " + asked + " answers" + told + ", " + wrong + " wrong");
        if (wrong != 0 || asked == 0) {
            System.exit(1);
        }
    }

    /** Feeds behind an empty tape. */
    static void feed(FourOnOne x, String text) {
        for (int at = 0; at < text.length(); at += 20) {
            x.feed(four(text, at), four(text, at + 4), four(text, at + 8), four(text, at + 12), four(text, at + 16));
        }
        if (text.length() > 0) {
            x.end(text.length());
        }
    }

    private static int four(String text, int from) {
        int number = 0;
        for (int at = from; at < from + 4; at++) {
            number = number << 8 | (at < text.length() ? text.charAt(at) & 255 : 35);
        }
        return number;
    }

    static int house(FourOnOne x, String text) {
        feed(x, text);
        return x.house();
    }

    static FourOnOne housed(String text) {
        FourOnOne x = new FourOnOne();
        if (house(x, text) < 0) {
            throw new IllegalArgumentException("fault " + x.fault(0) + " at " + x.fault(1) + ": " + text);
        }
        return x;
    }

    static long ask(FourOnOne x, int person, String text) {
        feed(x, text);
        return x.ask(person);
    }

    static int tell(FourOnOne x, int... bytes) {
        feed(x, text(bytes));
        return x.tell();
    }

    static boolean on(FourOnOne x, int... bytes) {
        feed(x, text(bytes));
        return x.on();
    }

    static String text(int... bytes) {
        StringBuilder text = new StringBuilder();
        for (int one : bytes) {
            text.append((char) (one & 255));
        }
        return text.toString();
    }

    static int[] image(FourOnOne x) {
        int[] bytes = new int[x.image()];
        for (int k = 0; k < bytes.length; k++) {
            bytes[k] = x.octet(k);
        }
        return bytes;
    }

    /** Puts the right last byte. */
    static int[] checked(int... bytes) {
        int[] all = bytes.clone();
        int c = 53;
        for (int k = 0; k + 1 < all.length; k++) {
            c = (3 * c + all[k]) % 251;
        }
        all[all.length - 1] = c;
        return all;
    }
}
