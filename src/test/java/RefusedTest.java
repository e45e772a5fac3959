import java.util.function.Supplier;
import java.util.function.ToIntFunction;

/**
 * Terms 2: refused calls answer NONE, or false, and change nothing but THE TEXT, which a call that reads it empties;
 * so do -2, -3, and -1 - p of a text. Two objects are made the same way, the call is made on one of them, and then
 * they must tell the same of all that they hold, the ROW ahead of all.
 */
public final class RefusedTest {
    private static final int NONE = NotWhereYesterday.NONE;
    private static final int LOW = Integer.MIN_VALUE;
    private static final int HIGH = Integer.MAX_VALUE;

    public static void main(String[] args) {
        houseIsFull();
        textIsFull();
        daysAreFull();
        house();
        today();
        days();
        best();
        laws();
        forEver();
        tooManyForEver();
        plans();
        kept();
        wrongTexts();
        nobody();
        Checks.end();
    }

    private static int bit(boolean answer) {
        return answer ? 1 : 0;
    }

    private static void leaves(String what, Supplier<NotWhereYesterday> made, int due, ToIntFunction<NotWhereYesterday> call) {
        NotWhereYesterday x = made.get();
        Checks.is(what, call.applyAsInt(x), due);
        String got = Whole.of(x);
        String want = Whole.of(made.get());
        Checks.yes(what + " leaves all as it was", got.equals(want));
    }

    /** Three of each, one who learns, works begun, a rule of each kind of LINES, a draft, a ROW, a text, two kept. */
    private static NotWhereYesterday wall() {
        NotWhereYesterday x = new NotWhereYesterday();
        x.person(63, 2);
        x.person(1, 3);
        x.person(5, 9);
        x.post(NONE, true, 3, 4);
        x.post(1, false, 2, 5);
        x.post(0, true, 9, 10);
        Checks.told(x, "w2;b1;f2;x0-1;a2,1-1;a1,4-5");
        Checks.dayOf(x, 0, 1, 2);
        x.keep(1);
        Checks.dayOf(x, 1, 2, 0);
        Checks.dayOf(x, 2, 0, NONE);
        x.put(1, 2);
        x.keep(2);
        x.put(0, 1);
        x.broken();
        Checks.tell(x, "b2;w1");
        return x;
    }

    private static void refused(String what, ToIntFunction<NotWhereYesterday> call) {
        leaves(what, RefusedTest::wall, NONE, call);
    }

    private static void none(String what, int due, ToIntFunction<NotWhereYesterday> call) {
        leaves(what, RefusedTest::wall, due, call);
    }

    private static NotWhereYesterday of(int people, int posts) {
        NotWhereYesterday x = Checks.wall(people, posts);
        x.fill();
        x.good();
        return x;
    }

    private static void houseIsFull() {
        Checks.part("refused, 10 of them");
        leaves("person", () -> of(10, 1), NONE, x -> x.person(63, 1));
        leaves("post", () -> of(1, 10), NONE, x -> x.post(NONE, true, 1, 0));
    }

    private static NotWhereYesterday withSigns(int n) {
        NotWhereYesterday x = of(2, 2);
        for (int i = 0; i < 20; i++) {
            x.sign('w' << 24 | '1' << 16 | ';' << 8 | 'w');
        }
        x.end(n);
        return x;
    }

    private static void textIsFull() {
        Checks.part("refused, signs");
        for (int had = 77; had <= 80; had++) {
            int n = had;
            leaves("sign behind " + n, () -> withSigns(n), NONE, x -> x.sign('b' << 24));
        }
        leaves("end(80) of 79", () -> withSigns(79), 0, x -> bit(x.end(80)));
        for (int end : new int[] {-1, 6, LOW, HIGH}) {
            leaves("end(" + end + ") of 5", () -> withSigns(5), 0, x -> bit(x.end(end)));
        }
        leaves("end(1) of none", () -> withSigns(0), 0, x -> bit(x.end(1)));
    }

    private static NotWhereYesterday atTheLastDay() {
        NotWhereYesterday x = Checks.wall(1, 1);
        x.go(0, 60);
        x.put(0, 0);
        x.works(0);
        return x;
    }

    private static NotWhereYesterday aheadOfTheLastDay() {
        NotWhereYesterday x = Checks.wall(1, 1);
        x.go(0, 59);
        x.put(0, 0);
        x.works(0);
        return x;
    }

    private static void daysAreFull() {
        Checks.part("refused, 60 days");
        leaves("day", RefusedTest::atTheLastDay, NONE, NotWhereYesterday::day);
        for (int kind = 0; kind <= 3; kind++) {
            int k = kind;
            leaves("go(" + k + ", 1) behind 60", RefusedTest::atTheLastDay, NONE, x -> x.go(k, 1));
            leaves("go(" + k + ", 2) behind 59", RefusedTest::aheadOfTheLastDay, NONE, x -> x.go(k, 2));
        }
        leaves("judge(60)", RefusedTest::atTheLastDay, NONE, x -> x.judge(60));
        leaves("who(61, 0)", RefusedTest::atTheLastDay, -2, x -> x.who(61, 0));
    }

    private static void house() {
        Checks.part("refused, the house");
        for (int v : new int[] {-1, 64, LOW, HIGH}) {
            refused("person(" + v + ", 1)", x -> x.person(v, 1));
        }
        for (int v : new int[] {-1, 0, 10, LOW, HIGH}) {
            refused("person(1, " + v + ")", x -> x.person(1, v));
            refused("post(1, true, " + v + ", 0)", x -> x.post(1, true, v, 0));
        }
        for (int v : new int[] {-2, 6, LOW, HIGH}) {
            refused("post(" + v + ", true, 1, 0)", x -> x.post(v, true, 1, 0));
            refused("crafts(0, " + v + ")", x -> x.crafts(0, v));
        }
        for (int v : new int[] {-1, 11, LOW, HIGH}) {
            refused("post(1, true, 1, " + v + ")", x -> x.post(1, true, 1, v));
        }
        for (int v : new int[] {-1, 3, 9, LOW, HIGH}) {
            refused("crafts(" + v + ", NONE)", x -> x.crafts(v, NONE));
            refused("crafts(" + v + ", 0)", x -> x.crafts(v, 0));
            refused("may(" + v + ", 0)", x -> x.may(v, 0));
            refused("may(0, " + v + ")", x -> x.may(0, v));
            refused("beside(" + v + ", 0)", x -> x.beside(v, 0));
            refused("beside(0, " + v + ")", x -> x.beside(0, v));
            refused("beside(" + v + ", " + v + ")", x -> x.beside(v, v));
        }
        refused("beside(1, 1)", x -> x.beside(1, 1));
    }

    private static void today() {
        Checks.part("refused, today");
        none("put of one at another POST", -2, x -> x.put(1, 1));
        none("put of one at another POST, to an empty one", -2, x -> x.put(2, 2));
        for (int v : new int[] {-1, 3, 10, LOW, HIGH}) {
            none("put(" + v + ", 0)", -3, x -> x.put(v, 0));
            none("put(" + v + ", 1)", -3, x -> x.put(v, 1));
            none("put(" + v + ", NONE)", -3, x -> x.put(v, NONE));
        }
        for (int v : new int[] {-2, 3, 10, LOW, HIGH}) {
            none("put(0, " + v + ")", -3, x -> x.put(0, v));
        }
        for (int kind = 0; kind <= 2; kind++) {
            int k = kind;
            for (int n : new int[] {-1, -11, LOW}) {
                none("sheet(" + k + ", " + n + ")", -2, x -> x.sheet(k, n, 0, 1));
            }
        }
        for (int kind = 0; kind <= 3; kind++) {
            int k = kind;
            for (int n : new int[] {11, HIGH}) {
                refused("sheet(" + k + ", " + n + ")", x -> x.sheet(k, n, 0, 1));
            }
        }
        for (int kind : new int[] {-1, 4, LOW, HIGH}) {
            for (int n : new int[] {-1, 0, 3, 10, 11}) {
                refused("sheet(" + kind + ", " + n + ")", x -> x.sheet(kind, n, 0, 1));
            }
        }
    }

    private static void days() {
        Checks.part("refused, days that went by");
        for (int v : new int[] {-1, 3, 10, LOW, HIGH}) {
            none("who(0, " + v + ")", -2, x -> x.who(0, v));
            refused("works(" + v + ")", x -> x.works(v));
        }
        for (int v : new int[] {-1, 4, 60, 61, LOW, HIGH}) {
            none("who(" + v + ", 0)", -2, x -> x.who(v, 0));
        }
        for (int v : new int[] {-1, 3, 4, 60, LOW, HIGH}) {
            refused("judge(" + v + ")", x -> x.judge(v));
        }
        leaves("judge of a good day", () -> {
            NotWhereYesterday x = of(2, 2);
            x.day();
            return x;
        }, -2, x -> x.judge(0));
    }

    private static void best() {
        Checks.part("refused, the best filling");
        for (int v : new int[] {-1, 3, 10, LOW, HIGH}) {
            refused("ill(" + v + ")", x -> x.ill(v));
            refused("can(" + v + ")", x -> x.can(v));
            refused("few(" + v + ")", x -> x.few(v));
            refused("till(" + v + ", 0)", x -> x.till(v, 0));
            refused("till(" + v + ", 1)", x -> x.till(v, 1));
        }
        for (int v : new int[] {-2, 3, 10, LOW, HIGH}) {
            refused("free(" + v + ")", x -> x.free(v));
        }
        for (int v : new int[] {-1, 5001, LOW, HIGH}) {
            refused("breaking(" + v + ")", x -> x.breaking(v));
        }
        for (int v : new int[] {-1, 2, LOW, HIGH}) {
            refused("till(0, " + v + ")", x -> x.till(0, v));
        }
        none("till, never", -2, x -> x.till(2, 0));
    }

    private static void laws() {
        Checks.part("refused, other laws");
        for (int v : new int[] {-1, 2, LOW, HIGH}) {
            refused("law(" + v + ", 1)", x -> x.law(v, 1));
            refused("price(" + v + ")", x -> x.price(v));
        }
        for (int v : new int[] {-1, 10, LOW, HIGH}) {
            refused("law(0, " + v + ")", x -> x.law(0, v));
            refused("law(1, " + v + ")", x -> x.law(1, v));
        }
    }

    /** One who can't, and learnt nothing yet: no FILLING of all POSTS. */
    private static NotWhereYesterday unable() {
        NotWhereYesterday x = new NotWhereYesterday();
        x.person(0, 9);
        x.person(0, 9);
        x.post(0, true, 1, 0);
        x.post(NONE, true, 1, 0);
        x.post(3, true, 1, 0);
        Checks.told(x, "w1");
        x.day();
        x.put(0, 1);
        x.broken();
        Checks.tell(x, "w2");
        return x;
    }

    private static void forEver() {
        Checks.part("-2, for ever");
        leaves("round", RefusedTest::unable, -2, NotWhereYesterday::round);
        leaves("lessons", RefusedTest::unable, -2, NotWhereYesterday::lessons);
        for (int n = 1; n <= 3; n++) {
            int days = n;
            leaves("most(" + n + ")", RefusedTest::unable, -2, x -> x.most(days));
        }
        for (int n : new int[] {-1, 0, 4, LOW, HIGH}) {
            refused("most(" + n + ")", x -> x.most(n));
        }
        leaves("fresh", () -> {
            NotWhereYesterday x = Checks.wall(1, 1);
            x.day();
            Checks.told(x, "a0,1-1");
            x.works(0);
            return x;
        }, -2, NotWhereYesterday::fresh);
    }

    private static void tooManyForEver() {
        Checks.part("-3, for ever");
        int[][] houses = {{6, 1}, {1, 6}, {6, 5}, {5, 6}, {6, 6}, {10, 1}, {1, 10}};
        for (int[] house : houses) {
            Supplier<NotWhereYesterday> made = () -> of(house[0], house[1]);
            String with = house[0] + " of " + house[1] + ", ";
            leaves(with + "ever", made, -3, NotWhereYesterday::ever);
            leaves(with + "round", made, -3, NotWhereYesterday::round);
            leaves(with + "lasts", made, -3, NotWhereYesterday::lasts);
            leaves(with + "lessons", made, -3, NotWhereYesterday::lessons);
            leaves(with + "fresh", made, -3, NotWhereYesterday::fresh);
            for (int n = 1; n <= 3; n++) {
                int days = n;
                leaves(with + "most(" + n + ")", made, -3, x -> x.most(days));
            }
            leaves(with + "most(0)", made, NONE, x -> x.most(0));
            leaves(with + "most(4)", made, NONE, x -> x.most(4));
        }
    }

    private static void plans() {
        Checks.part("refused, kinds of plans");
        for (int v : new int[] {-1, 4, LOW, HIGH}) {
            refused("go(" + v + ", 0)", x -> x.go(v, 0));
            refused("go(" + v + ", 1)", x -> x.go(v, 1));
        }
        for (int kind = 0; kind <= 3; kind++) {
            int k = kind;
            for (int n : new int[] {-1, 58, 60, 61, LOW, HIGH}) {
                refused("go(" + k + ", " + n + ")", x -> x.go(k, n));
            }
        }
        for (int v : new int[] {-1, 3, 10, LOW, HIGH}) {
            refused("met(" + v + ")", x -> x.met(v));
            refused("often(" + v + ", 0)", x -> x.often(v, 0));
            refused("often(0, " + v + ")", x -> x.often(0, v));
            refused("alternate(" + v + ")", x -> x.alternate(v));
            refused("chairs(" + v + ")", x -> x.chairs(v));
        }
        for (int v : new int[] {-1, 0, 1, 11, LOW, HIGH}) {
            refused("soon(" + v + ")", x -> x.soon(v));
        }
        leaves("all of one", () -> of(1, 2), NONE, NotWhereYesterday::all);
        leaves("all of two who did not meet", () -> of(2, 2), -2, NotWhereYesterday::all);
    }

    private static void kept() {
        Checks.part("refused, kept");
        for (int v : new int[] {-1, 3, LOW, HIGH}) {
            none("keep(" + v + ")", 0, x -> bit(x.keep(v)));
            none("again(" + v + ")", 0, x -> bit(x.again(v)));
        }
        none("again of nothing kept", 0, x -> bit(x.again(0)));
        leaves("again behind one of PEOPLE", () -> {
            NotWhereYesterday x = wall();
            x.person(7, 1);
            return x;
        }, 0, x -> bit(x.again(1)));
        leaves("again behind a POST", () -> {
            NotWhereYesterday x = wall();
            x.post(NONE, false, 1, 0);
            return x;
        }, 0, x -> bit(x.again(2)));
        for (int v : new int[] {-1, 8, LOW, HIGH}) {
            refused("count(" + v + ")", x -> x.count(v));
        }
        for (int v : new int[] {-1, 4, 31, 32, LOW, HIGH}) {
            none("row(" + v + ")", 1, x -> bit(Checks.throwsNoSuch(x, v)));
        }
    }

    /** A wrong text is emptied; else all is as if it had been taken back sign by sign. */
    private static void wrongTexts() {
        Checks.part("-1 - p of a text");
        String[] texts = {"?", ";", "w", "w9;b9;z", "f0;f1;f", "x0-0;x1-1;x2-2;", "a0,3-9;a1,3-9;a2,3-", "a0,9-8", "b9;w9;a2,50-49"};
        for (String text : texts) {
            NotWhereYesterday x = wall();
            x.end(0);
            Checks.tell(x, text);
            Checks.yes(text + " is wrong", x.rule() <= -1);
            NotWhereYesterday y = wall();
            y.end(0);
            Checks.yes(text + " leaves all but THE TEXT", Whole.of(x).equals(Whole.of(y)));
        }
        NotWhereYesterday x = wall();
        x.end(0);
        Checks.tell(x, "w9;".repeat(20) + "b9;f0;f1");
        Checks.is("a text of 68", x.rule(), -61);
        NotWhereYesterday y = wall();
        y.end(0);
        Checks.yes("a text of 68 leaves all but THE TEXT", Whole.of(x).equals(Whole.of(y)));
    }

    private static void nobody() {
        Checks.part("refused, nobody");
        Supplier<NotWhereYesterday> made = () -> of(0, 2);
        leaves("worth", made, -2, NotWhereYesterday::worth);
        leaves("all", made, NONE, NotWhereYesterday::all);
        leaves("round", made, -2, NotWhereYesterday::round);
        leaves("lessons", made, -2, NotWhereYesterday::lessons);
        for (int kind = 0; kind <= 3; kind++) {
            int k = kind;
            leaves("go(" + k + ", 0)", made, NONE, x -> x.go(k, 0));
            leaves("go(" + k + ", 1)", made, NONE, x -> x.go(k, 1));
        }
        leaves("crafts", made, NONE, x -> x.crafts(0, NONE));
        leaves("may", made, NONE, x -> x.may(0, 0));
        leaves("put", made, -3, x -> x.put(0, 0));
        leaves("ill", made, NONE, x -> x.ill(0));
        leaves("free", made, NONE, x -> x.free(0));
        leaves("met", made, NONE, x -> x.met(0));
        leaves("chairs", made, NONE, x -> x.chairs(0));
    }
}
