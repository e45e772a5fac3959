/** Promises 37 to 44: kinds of plans. */
public final class PlansTest {
    private static final int NONE = NotWhereYesterday.NONE;

    public static void main(String[] args) {
        ring();
        turns();
        zigzag();
        choice();
        goNotGood();
        goRefused();
        met();
        all();
        soon();
        often();
        alternate();
        chairs();
        unlike();
        Checks.end();
    }

    private static void dayIs(NotWhereYesterday x, int day, int... people) {
        for (int p = 0; p < people.length; p++) {
            Checks.is("day " + day + ", post " + p, x.who(day, p), people[p]);
        }
    }

    private static void ring() {
        Checks.part("promise 37, ring");
        NotWhereYesterday x = Checks.wall(3, 2);
        Checks.is("four days", x.go(0, 4), 0);
        dayIs(x, 0, 0, 1);
        dayIs(x, 1, 1, 2);
        dayIs(x, 2, 2, 0);
        dayIs(x, 3, 0, 1);
        dayIs(x, 4, NONE, NONE);
        NotWhereYesterday y = Checks.wall(2, 4);
        Checks.is("more posts", y.go(0, 2), 0);
        dayIs(y, 0, 0, 1, NONE, NONE);
        dayIs(y, 1, 1, 0, NONE, NONE);
        Checks.is("works", y.works(0), 2);
    }

    private static void turns() {
        Checks.part("promise 37, turns");
        NotWhereYesterday x = Checks.wall(5, 4);
        Checks.is("three days", x.go(1, 3), 0);
        dayIs(x, 0, 0, 2, 4, NONE);
        dayIs(x, 1, 1, 3, NONE, NONE);
        dayIs(x, 2, 0, 2, 4, NONE);
    }

    private static void zigzag() {
        Checks.part("promise 37, zigzag");
        NotWhereYesterday x = Checks.wall(4, 5);
        Checks.is("two days", x.go(2, 2), 0);
        dayIs(x, 0, 0, 3, 1, 2, NONE);
        dayIs(x, 1, 1, 0, 2, 3, NONE);
        NotWhereYesterday y = Checks.wall(5, 3);
        y.go(2, 3);
        dayIs(y, 0, 0, 4, 1);
        dayIs(y, 1, 1, 0, 2);
        dayIs(y, 2, 2, 1, 3);
    }

    private static void choice() {
        Checks.part("promise 37, choice");
        NotWhereYesterday x = Checks.wall(3, 2);
        Checks.told(x, "w1;b1");
        x.put(0, 2);
        x.works(0);
        Checks.is("none is not good", x.go(3, 3), 0);
        dayIs(x, 0, 0, 1);
        dayIs(x, 1, 1, 2);
        dayIs(x, 2, 0, 1);
        Checks.rowIs("the ROW stays", x, 0, NONE);
        Checks.is("the draft is empty", x.count(5), 0);
        Checks.is("no days", x.go(3, 0), 0);
        Checks.is("today", x.count(2), 3);
    }

    private static void goNotGood() {
        Checks.part("promise 37, not good");
        NotWhereYesterday x = Checks.wall(2, 1);
        Checks.told(x, "w2");
        Checks.is("0 1 0 1", x.go(1, 4), 2);
        NotWhereYesterday y = new NotWhereYesterday();
        y.person(0, 2);
        y.post(0, true, 1, 0);
        Checks.is("till it has learnt", y.go(0, 5), 2);
        Checks.is("goes", y.crafts(0, NONE), 1);
        Checks.is("works", y.works(0), 3);
        NotWhereYesterday z = Checks.wall(1, 1);
        z.put(0, 0);
        Checks.is("no day", z.go(0, 0), 0);
        Checks.is("the draft stays", z.count(5), 1);
        z.post(NONE, true, 1, 0);
        Checks.is("must is not good's", z.go(0, 1), 0);
    }

    private static void goRefused() {
        Checks.part("promise 37, refused");
        NotWhereYesterday x = new NotWhereYesterday();
        x.post(NONE, true, 1, 0);
        Checks.is("nobody", x.go(0, 1), NONE);
        Checks.is("nobody, no days", x.go(3, 0), NONE);
        x.person(63, 1);
        Checks.is("kind 4", x.go(4, 1), NONE);
        Checks.is("kind -1", x.go(-1, 1), NONE);
        Checks.is("-1 days", x.go(0, -1), NONE);
        Checks.is("61 days", x.go(0, 61), NONE);
        Checks.is("none went by", x.count(2), 0);
        Checks.is("59 days", x.go(0, 59), 0);
        x.put(0, 0);
        Checks.is("two more", x.go(0, 2), NONE);
        Checks.is("the draft stays", x.count(5), 1);
        Checks.is("one more", x.go(0, 1), 0);
        Checks.is("the last", x.go(0, 1), NONE);
        Checks.is("no days", x.go(0, 0), 0);
        Checks.is("sixty", x.count(2), 60);
    }

    private static void met() {
        Checks.part("promise 38");
        NotWhereYesterday x = Checks.wall(4, 4);
        Checks.is("nobody yet", x.met(0), 0);
        Checks.dayOf(x, 0, 1, NONE, 2);
        Checks.dayOf(x, 3, 0, 2);
        Checks.draft(x, 1, 2);
        Checks.is("0", x.met(0), 14);
        Checks.is("1", x.met(1), 1);
        Checks.is("2, without today", x.met(2), 1);
        Checks.is("none such", x.met(4), NONE);
        Checks.is("none such", x.met(-1), NONE);
    }

    private static void all() {
        Checks.part("promise 39");
        NotWhereYesterday x = Checks.wall(1, 3);
        Checks.is("one of people", x.all(), NONE);
        x.person(0, 1);
        Checks.is("no days", x.all(), -2);
        x.day();
        Checks.dayOf(x, NONE, 1, 0);
        Checks.is("from day 0 on", x.all(), 2);
        x.day();
        Checks.is("behind it", x.all(), 2);
        x.person(0, 1);
        Checks.is("a third one", x.all(), -2);
        Checks.dayOf(x, 2, 0, NONE);
        Checks.is("not 1 and 2", x.all(), -2);
        Checks.dayOf(x, 1, 2, 0);
        Checks.is("all", x.all(), 5);
        Checks.is("nobody", new NotWhereYesterday().all(), NONE);
    }

    private static void soon() {
        Checks.part("promise 40");
        NotWhereYesterday x = new NotWhereYesterday();
        for (int n = 2; n <= 10; n++) {
            // of n(n-1)/2 pairs a day has n-1, for odd n the last day fewer new ones
            Checks.is("soon(" + n + ")", x.soon(n), (n + 1) / 2);
            NotWhereYesterday y = Checks.wall(n, n);
            y.go(2, 30);
            Checks.is("all() of " + n, y.all(), (n + 1) / 2);
        }
        Checks.is("soon(1)", x.soon(1), NONE);
        Checks.is("soon(11)", x.soon(11), NONE);
        Checks.is("soon(-3)", x.soon(-3), NONE);
    }

    private static void often() {
        Checks.part("promise 41");
        NotWhereYesterday x = Checks.wall(2, 2);
        int[] days = {0, NONE, 0, 1, 0, 0, NONE, NONE, 0};
        int[] times = {0, 1, 1, 2, 2, 3, 4, 4, 4, 5};
        int[] fewest = {0, 0, 0, 2, 2, 2, 1, 1, 1, 1};
        int[] second = {0, 0, 0, 1, 1, 1, 0, 0, 0, 0};
        for (int d = 0; d <= days.length; d++) {
            Checks.is("ahead of day " + d, x.often(0, 0), times[d]);
            Checks.rowIs("ahead of day " + d, x, fewest[d], second[d]);
            if (d < days.length) {
                Checks.dayOf(x, days[d]);
            }
        }
        Checks.is("once", x.often(1, 0), 1);
        Checks.rowIs("once", x, 0, 0);
        Checks.is("never", x.often(1, 1), 0);
        NotWhereYesterday y = Checks.wall(1, 1);
        Checks.dayOf(y, 0);
        y.day();
        y.day();
        Checks.dayOf(y, 0);
        y.often(0, 0);
        Checks.rowIs("each third day", y, 3, 0);
        y.day();
        Checks.dayOf(y, 0);
        y.often(0, 0);
        Checks.rowIs("a third and a second day", y, 2, 0);
        Checks.is("none such", y.often(1, 0), NONE);
        Checks.is("none such", y.often(-1, 0), NONE);
        Checks.is("no such post", y.often(0, 1), NONE);
        Checks.is("no such post", y.often(0, -1), NONE);
    }

    private static void alternate() {
        Checks.part("promise 42");
        NotWhereYesterday x = Checks.wall(3, 1);
        int[] days = {NONE, 1, 0, 1, 0, 2, 2, 0, NONE, 0, 2};
        int[] due = {0, 0, 0, 2, 3, 4, 2, 0, 2, 0, 0, 2};
        for (int d = 0; d <= days.length; d++) {
            x.chairs(0);
            Checks.is("ahead of day " + d, x.alternate(0), due[d]);
            if (due[d] > 0) {
                Checks.rowIs("ahead of day " + d, x, days[d - 1], days[d - 2]);
            } else {
                Checks.rowIs("ahead of day " + d, x);
            }
            if (d < days.length) {
                Checks.dayOf(x, days[d]);
            }
        }
        Checks.is("no such post", x.alternate(1), NONE);
        Checks.is("no such post", x.alternate(-1), NONE);
        Checks.rowIs("the ROW stays", x, 2, 0);
        NotWhereYesterday y = Checks.wall(2, 1);
        y.go(0, 60);
        Checks.is("all days", y.alternate(0), 60);
        Checks.rowIs("all days", y, 1, 0);
    }

    private static void chairs() {
        Checks.part("promise 43");
        NotWhereYesterday x = Checks.wall(3, 3);
        Checks.is("no days", x.chairs(0), 0);
        Checks.rowIs("no days", x, 0);
        Checks.dayOf(x, 0, 1);
        Checks.dayOf(x, NONE, 0, 2);
        Checks.draft(x, 2, NONE, 0);
        Checks.is("0, without today", x.chairs(0), 3);
        Checks.rowIs("nobody at all", x, 0);
        x.day();
        Checks.is("0", x.chairs(0), 7);
        Checks.rowIs("one at all", x, 1);
        Checks.is("2", x.chairs(2), 5);
        Checks.rowIs("one at all", x, 1);
        Checks.is("none such", x.chairs(3), NONE);
        Checks.is("none such", x.chairs(-1), NONE);
        x.post(NONE, true, 1, 0);
        x.chairs(0);
        Checks.rowIs("a post told later", x, 0);
        NotWhereYesterday y = Checks.wall(2, 0);
        Checks.is("no posts", y.chairs(0), 0);
        Checks.rowIs("all of none", y, 2);
    }

    private static void unlike() {
        Checks.part("promise 44");
        NotWhereYesterday x = Checks.wall(3, 2);
        Checks.is("no days", x.unlike(), 0);
        int[][] days = {{0, 1}, {1, 0}, {0, 1}, {0, NONE}, {NONE, 0}, {1, 0}, {NONE, NONE}, {NONE, NONE}, {0, 1}};
        int[] due = {1, 2, 2, 3, 4, 4, 5, 1, 2};
        for (int d = 0; d < days.length; d++) {
            Checks.dayOf(x, days[d]);
            Checks.is("behind day " + d, x.unlike(), due[d]);
        }
        NotWhereYesterday y = Checks.wall(3, 2);
        y.go(0, 60);
        Checks.is("a ring of three", y.unlike(), 3);
        NotWhereYesterday z = new NotWhereYesterday();
        z.day();
        z.day();
        Checks.is("no posts", z.unlike(), 1);
    }
}
