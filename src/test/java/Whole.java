/** All that an object tells, but for its faults and how many were refused, as one text: to see what a call leaves as it was. */
final class Whole {
    private Whole() {
    }

    /** Some 120 calls for a house of two each, of which none changes anything: an object is good for 512. */
    static String of(FourOnOne x) {
        StringBuilder all = new StringBuilder("has");
        int[] has = new int[11];
        for (int what = 0; what <= 10; what++) {
            has[what] = x.has(what);
            all.append(' ').append(has[what]);
        }
        named(all, x, has);
        profiles(all, x, has);
        kept(all, x, has[8]);
        ahead(all, x, has[2]);
        all.append(" octets");
        for (int k = 0; k < 29; k++) {
            all.append(' ').append(x.octet(k));
        }
        return all.toString();
    }

    private static void named(StringBuilder all, FourOnOne x, int[] has) {
        for (int sort = 0; sort <= 2; sort++) {
            all.append(" names");
            for (int which = 0; which < has[sort]; which++) {
                all.append(' ').append(x.letter(sort, which, 0));
            }
        }
        all.append(" films");
        for (int film = 0; film < has[1]; film++) {
            all.append(' ').append(x.film(film, 0)).append(' ').append(x.film(film, 10));
        }
        all.append(" people");
        for (int person = 0; person < has[2]; person++) {
            for (int what = 0; what <= 3; what++) {
                all.append(' ').append(x.person(person, what));
            }
            all.append(' ').append(x.person(person, 10));
        }
    }

    private static void profiles(StringBuilder all, FourOnOne x, int[] has) {
        for (int person = -1; person < has[2]; person++) {
            all.append(" taste");
            for (int kind = 0; kind < has[0]; kind++) {
                all.append(' ').append(x.taste(person, kind));
            }
            all.append(" seen");
            for (int film = 0; film < has[1]; film++) {
                all.append(' ').append(x.seen(person, film));
            }
        }
    }

    private static void kept(StringBuilder all, FourOnOne x, int rows) {
        all.append(" kept");
        for (int k = 0; k < rows; k++) {
            for (int what = 1; what <= 3; what++) {
                all.append(' ').append(x.kept(k, what));
            }
        }
    }

    private static void ahead(StringBuilder all, FourOnOne x, int people) {
        all.append(" ahead");
        for (int person = 0; person < people; person++) {
            all.append(' ').append(x.pleased(person, 5)).append(' ').append(x.refused(person, 5));
        }
        for (int what = 0; what <= 2; what++) {
            all.append(' ').append(x.pressed(what));
        }
    }
}
