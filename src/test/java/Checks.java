import java.util.NoSuchElementException;

/** What the tests have in common: counting what is wrong, telling a text, comparing the ROW. */
final class Checks {
    static final int NONE = NotWhereYesterday.NONE;

    private static int wrong;
    private static String part = "";

    private Checks() {
    }

    static void part(String name) {
        part = name;
    }

    static void is(String what, long got, long want) {
        if (got != want) {
            wrong++;
            System.out.println(part + ": " + what + " answered " + got + ", due is " + want);
        }
    }

    static void yes(String what, boolean got) {
        is(what, got ? 1 : 0, 1);
    }

    static void no(String what, boolean got) {
        is(what, got ? 1 : 0, 0);
    }

    static void rowIs(String what, NotWhereYesterday x, int... row) {
        is(what + ": numbers of the ROW", x.count(6), row.length);
        for (int i = 0; i < row.length && i < x.count(6); i++) {
            is(what + ": row(" + i + ")", x.row(i), row[i]);
        }
        yes(what + ": row(" + row.length + ") throws", throwsNoSuch(x, row.length));
    }

    static boolean throwsNoSuch(NotWhereYesterday x, int i) {
        try {
            x.row(i);
        } catch (NoSuchElementException e) {
            return true;
        }
        return false;
    }

    static int told(NotWhereYesterday x, String text) {
        tell(x, text);
        return x.rule();
    }

    /** Behind what THE TEXT has. */
    static void tell(NotWhereYesterday x, String text) {
        int had = x.count(7);
        for (int i = 0; i < text.length(); i += 4) {
            int v = 0;
            for (int j = i; j < i + 4; j++) {
                v = v << 8 | (j < text.length() ? text.charAt(j) : 0);
            }
            x.sign(v);
        }
        x.end(had + text.length());
    }

    /** So many of PEOPLE with all CRAFTS, so many POSTS without, none of which must be filled. */
    static NotWhereYesterday wall(int people, int posts) {
        NotWhereYesterday x = new NotWhereYesterday();
        for (int i = 0; i < people; i++) {
            x.person(63, 2);
        }
        for (int i = 0; i < posts; i++) {
            x.post(NONE, false, 1, 0);
        }
        return x;
    }

    /** THE DRAFT, POST by POST, whatever it was. */
    static void draft(NotWhereYesterday x, int... people) {
        x.sheet(3, 0, 0, 0);
        for (int p = 0; p < people.length; p++) {
            is("put(" + p + ", " + people[p] + ")", x.put(p, people[p]), NONE);
        }
    }

    static void dayOf(NotWhereYesterday x, int... people) {
        draft(x, people);
        int today = x.count(2);
        is("day()", x.day(), today);
    }

    static void end() {
        System.out.println(wrong == 0 ? "all answers are as due" : wrong + " answers are not as due");
        if (wrong != 0) {
            System.exit(1);
        }
    }
}
