/** Promises 37 to 44: each sentence that names an edge has a test of its own here. */
public final class EdgesOfPlansTest {
    private static final int NONE = NotWhereYesterday.NONE;
    private static final int LOW = Integer.MIN_VALUE;
    private static final int HIGH = Integer.MAX_VALUE;

    public static void main(String[] args) {
        goNoDays();
        goSixtyDays();
        goMoreThanSixty();
        goOthers();
        goOfNobody();
        goHowManyNotGood();
        ringOfAsManyPosts();
        ringOfMorePosts();
        turnsIfThereIsOne();
        zigzagOfEachNumber();
        zigzagOfMorePosts();
        kindsOfFewerPosts();
        choiceOfNothing();
        metOnAllDays();
        metOfNoneSuch();
        allFromDay0On();
        allNotYet();
        allOfFewerThanTwo();
        soonOfEachNumber();
        soonOfAnotherN();
        oftenFewerThanTwo();
        oftenFewestDays();
        oftenEachSecondDay();
        oftenOfNoneSuch();
        alternateTwoAtLeast();
        alternateNone();
        alternateRightAheadOfToday();
        alternateOfNoneSuch();
        chairsOfAllPosts();
        chairsOfNoneSuch();
        unlikeOfNoDays();
        unlikeRightAheadOfToday();
        unlikeOfSixtyDays();
        Checks.end();
    }

    private static void dayIs(NotWhereYesterday x, int day, int... people) {
        for (int p = 0; p < people.length; p++) {
            Checks.is("day " + day + ", post " + p, x.who(day, p), people[p]);
        }
    }

    private static void goNoDays() {
        Checks.part("37: n DAYS (0 .. 60): 0");
        for (int kind = 0; kind <= 3; kind++) {
            NotWhereYesterday x = Checks.wall(2, 2);
            x.put(1, 0);
            Checks.is("kind " + kind, x.go(kind, 0), 0);
            Checks.is("today", x.count(2), 0);
            dayIs(x, 0, NONE, 0);
        }
    }

    private static void goSixtyDays() {
        Checks.part("37: n DAYS (0 .. 60): 60");
        for (int kind = 0; kind <= 3; kind++) {
            NotWhereYesterday x = Checks.wall(2, 2);
            x.put(1, 0);
            Checks.is("kind " + kind, x.go(kind, 60), 0);
            Checks.is("today", x.count(2), 60);
            Checks.is("works", x.works(0), 60);
            Checks.is("the draft", x.count(5), 0);
            Checks.is("no day more", x.go(kind, 0), 0);
        }
    }

    private static void goMoreThanSixty() {
        Checks.part("37: Refused: more than 60 DAYS");
        for (int kind = 0; kind <= 3; kind++) {
            NotWhereYesterday x = Checks.wall(2, 2);
            Checks.is("61", x.go(kind, 61), NONE);
            x.day();
            Checks.is("60 behind one", x.go(kind, 60), NONE);
            Checks.is("today", x.count(2), 1);
            Checks.is("59 behind one", x.go(kind, 59), 0);
            x.put(0, 1);
            Checks.is("1 behind 60", x.go(kind, 1), NONE);
            Checks.is("HIGH", x.go(kind, HIGH), NONE);
            Checks.is("the draft stays", x.who(60, 0), 1);
        }
    }

    private static void goOthers() {
        Checks.part("37: Refused: others");
        NotWhereYesterday x = Checks.wall(2, 2);
        for (int kind : new int[] {-1, 4, LOW, HIGH}) {
            Checks.is("kind " + kind, x.go(kind, 1), NONE);
            Checks.is("kind " + kind + ", no days", x.go(kind, 0), NONE);
        }
        for (int n : new int[] {-1, -60, LOW}) {
            Checks.is(n + " days", x.go(0, n), NONE);
            Checks.is(n + " days", x.go(3, n), NONE);
        }
        Checks.is("today", x.count(2), 0);
    }

    private static void goOfNobody() {
        Checks.part("37: Refused: nobody");
        NotWhereYesterday x = Checks.wall(0, 2);
        for (int kind = 0; kind <= 3; kind++) {
            Checks.is("kind " + kind, x.go(kind, 1), NONE);
            Checks.is("kind " + kind + ", no days", x.go(kind, 0), NONE);
        }
        Checks.is("today", x.count(2), 0);
        NotWhereYesterday y = Checks.wall(1, 0);
        Checks.is("one, no posts", y.go(0, 2), 0);
        Checks.is("today", y.count(2), 2);
    }

    private static void goHowManyNotGood() {
        Checks.part("37: How many of these DAYS were not GOOD");
        NotWhereYesterday x = Checks.wall(2, 1);
        Checks.told(x, "w9;a0,0-99;a1,0-99");
        Checks.is("all of 20 by turns", x.go(1, 20), 20);
        Checks.is("of these, not of those ahead: by choice", x.go(3, 20), 0);
        Checks.told(x, "w2");
        Checks.is("of these from the third on", x.go(0, 20), 18);
        NotWhereYesterday y = new NotWhereYesterday();
        y.person(0, 3);
        y.post(0, true, 1, 0);
        Checks.is("till one has learnt", y.go(0, 10), 3);
    }

    private static void ringOfAsManyPosts() {
        Checks.part("37: a RING: the one with number (p + DAY) % PEOPLE");
        for (int from = 0; from < 60; from += 30) {
            NotWhereYesterday x = Checks.wall(10, 10);
            x.go(0, 60);
            for (int day = from; day < from + 30; day++) {
                for (int p = 0; p < 10; p++) {
                    Checks.is("day " + day + ", post " + p, x.who(day, p), (p + day) % 10);
                }
            }
        }
        NotWhereYesterday y = Checks.wall(1, 1);
        y.go(0, 3);
        dayIs(y, 2, 0);
    }

    private static void ringOfMorePosts() {
        Checks.part("37: a RING: if there are more PEOPLE than POSTS ahead of p");
        for (int people = 1; people <= 9; people++) {
            NotWhereYesterday x = Checks.wall(people, 10);
            x.go(0, 2);
            for (int p = 0; p < 10; p++) {
                Checks.is("post " + p, x.who(0, p), p < people ? p : NONE);
                Checks.is("post " + p, x.who(1, p), p < people ? (p + 1) % people : NONE);
            }
        }
        NotWhereYesterday y = Checks.wall(3, 2);
        y.go(0, 3);
        dayIs(y, 0, 0, 1);
        dayIs(y, 1, 1, 2);
        dayIs(y, 2, 2, 0);
    }

    private static void turnsIfThereIsOne() {
        Checks.part("37: by TURNS: the one with number 2 p + DAY % 2, if there is one");
        for (int people = 1; people <= 10; people++) {
            NotWhereYesterday x = Checks.wall(people, 6);
            x.go(1, 4);
            for (int day = 0; day < 4; day++) {
                for (int p = 0; p < 6; p++) {
                    int one = 2 * p + day % 2;
                    Checks.is("day " + day + ", post " + p, x.who(day, p), one < people ? one : NONE);
                }
            }
        }
    }

    private static int zigzag(int n, int day, int post) {
        return (day + (post % 2 == 0 ? post / 2 : n - (post + 1) / 2)) % n;
    }

    private static void zigzagOfEachNumber() {
        Checks.part("37: ZIGZAG: z being p by 2 for even p, n less half of (p + 1) for odd ones");
        int[][] days0 = {{0}, {0, 1}, {0, 2, 1}, {0, 3, 1, 2}, {0, 4, 1, 3, 2}, {0, 5, 1, 4, 2, 3}, {0, 6, 1, 5, 2, 4, 3},
            {0, 7, 1, 6, 2, 5, 3, 4}, {0, 8, 1, 7, 2, 6, 3, 5, 4}, {0, 9, 1, 8, 2, 7, 3, 6, 4, 5}};
        for (int n = 1; n <= 10; n++) {
            NotWhereYesterday x = Checks.wall(n, n);
            Checks.told(x, "w" + (n - 1));
            Checks.is("each at each post once in n days", x.go(2, 20), 0);
            dayIs(x, 0, days0[n - 1]);
            for (int day = 0; day < 20; day++) {
                for (int p = 0; p < n; p++) {
                    Checks.is("day " + day + ", post " + p, x.who(day, p), (days0[n - 1][p] + day) % n);
                    Checks.is("as told", x.who(day, p), zigzag(n, day, p));
                }
            }
        }
    }

    private static void zigzagOfMorePosts() {
        Checks.part("37: ZIGZAG: of n PEOPLE at POST p (below n)");
        NotWhereYesterday x = Checks.wall(3, 10);
        x.go(2, 2);
        dayIs(x, 0, 0, 2, 1, NONE, NONE, NONE, NONE, NONE, NONE, NONE);
        dayIs(x, 1, 1, 0, 2, NONE, NONE, NONE, NONE, NONE, NONE, NONE);
        NotWhereYesterday y = Checks.wall(10, 3);
        y.go(2, 2);
        dayIs(y, 0, 0, 9, 1);
        dayIs(y, 1, 1, 0, 2);
    }

    private static void kindsOfFewerPosts() {
        Checks.part("37: at POST p: nobody at one that is told later");
        for (int kind = 0; kind <= 3; kind++) {
            NotWhereYesterday x = Checks.wall(6, 2);
            x.go(kind, 1);
            x.post(NONE, false, 1, 0);
            Checks.is("kind " + kind, x.who(0, 2), NONE);
            Checks.is("kind " + kind, x.who(1, 2), NONE);
            x.go(kind, 1);
            Checks.yes("on the next DAY, kind " + kind, x.who(1, 2) != NONE);
        }
    }

    private static void choiceOfNothing() {
        Checks.part("37: by CHOICE: best()");
        NotWhereYesterday x = Checks.wall(2, 2);
        Checks.told(x, "w2");
        x.put(0, 1);
        Checks.is("four days", x.go(3, 4), 0);
        dayIs(x, 0, 0, 1);
        dayIs(x, 1, 1, 0);
        dayIs(x, 2, NONE, NONE);
        dayIs(x, 3, 0, 1);
    }

    private static void metOnAllDays() {
        Checks.part("38: With whom one has been NEIGHBOURS on all DAYS (bits)");
        NotWhereYesterday x = Checks.wall(10, 10);
        Checks.is("none went by", x.met(0), 0);
        x.sheet(2, 10, 0, 1);
        Checks.is("not in the draft", x.met(0), 0);
        x.day();
        Checks.is("the first", x.met(0), 2);
        Checks.is("the second", x.met(1), 5);
        Checks.is("the last", x.met(9), 256);
        x.go(2, 59);
        for (int a = 0; a < 10; a++) {
            Checks.is("all but itself", x.met(a), 1023 & ~(1 << a));
        }
    }

    private static void metOfNoneSuch() {
        Checks.part("38: NONE: none such");
        NotWhereYesterday x = Checks.wall(2, 2);
        for (int one : new int[] {-1, 2, 9, 10, LOW, HIGH}) {
            Checks.is("one " + one, x.met(one), NONE);
        }
        Checks.is("the last", x.met(1), 0);
    }

    private static void allFromDay0On() {
        Checks.part("39: How many DAYS (from DAY 0 on) it took");
        NotWhereYesterday x = Checks.wall(2, 2);
        x.fill();
        Checks.is("not in the draft", x.all(), -2);
        x.sheet(3, 0, 0, 0);
        x.day();
        x.soon(2);
        Checks.is("nor in a ZIGZAG that was asked for", x.all(), -2);
        x = Checks.wall(2, 2);
        x.fill();
        x.day();
        Checks.is("on DAY 0", x.all(), 1);
        x.go(0, 59);
        Checks.is("as many, whatever went by then", x.all(), 1);
        NotWhereYesterday y = Checks.wall(2, 2);
        y.go(1, 59);
        Checks.is("not by turns: 0 or 1 at 0 alone", y.all(), -2);
        Checks.dayOf(y, 1, 0);
        Checks.is("on the last DAY", y.all(), 60);
    }

    private static void allNotYet() {
        Checks.part("39: -2: they were not");
        NotWhereYesterday x = Checks.wall(3, 3);
        Checks.is("none went by", x.all(), -2);
        Checks.dayOf(x, 0, 1, 2);
        Checks.is("0 and 2 did not meet", x.all(), -2);
        Checks.dayOf(x, 0, NONE, 2);
        Checks.is("nor one post between", x.all(), -2);
        Checks.dayOf(x, NONE, 2, 0);
        Checks.is("they did", x.all(), 3);
        Checks.is("without posts", Checks.wall(2, 0).all(), -2);
    }

    private static void allOfFewerThanTwo() {
        Checks.part("39: NONE: fewer than two PEOPLE");
        NotWhereYesterday x = Checks.wall(0, 2);
        x.day();
        Checks.is("nobody", x.all(), NONE);
        x.person(0, 1);
        Checks.is("one", x.all(), NONE);
        x.person(0, 1);
        Checks.is("two", x.all(), -2);
    }

    private static void soonOfEachNumber() {
        Checks.part("40: The fewest DAYS of ZIGZAG till all of n (2 .. 10) would be NEIGHBOURS of each other");
        NotWhereYesterday x = new NotWhereYesterday();
        for (int n = 2; n <= 10; n++) {
            boolean[][] met = new boolean[n][n];
            int pairs = 0;
            int days = 0;
            while (pairs < n * (n - 1) / 2) {
                for (int p = 1; p < n; p++) {
                    int one = Math.min(zigzag(n, days, p - 1), zigzag(n, days, p));
                    int other = Math.max(zigzag(n, days, p - 1), zigzag(n, days, p));
                    pairs += met[one][other] ? 0 : 1;
                    met[one][other] = true;
                }
                days++;
            }
            Checks.is("of " + n, x.soon(n), days);
        }
        Checks.is("of two", x.soon(2), 1);
        Checks.is("of three", x.soon(3), 2);
        Checks.is("of ten", x.soon(10), 5);
    }

    private static void soonOfAnotherN() {
        Checks.part("40: NONE: another n");
        NotWhereYesterday x = Checks.wall(3, 3);
        for (int n : new int[] {-2, -1, 0, 1, 11, 12, LOW, HIGH}) {
            Checks.is("of " + n, x.soon(n), NONE);
        }
    }

    private static NotWhereYesterday thereOn(boolean... days) {
        NotWhereYesterday x = Checks.wall(1, 1);
        for (boolean there : days) {
            Checks.dayOf(x, there ? 0 : NONE);
        }
        return x;
    }

    private static void oftenIs(String what, NotWhereYesterday x, int times, int fewest, int second) {
        Checks.is(what, x.often(0, 0), times);
        Checks.rowIs(what, x, fewest, second);
    }

    private static void oftenFewerThanTwo() {
        Checks.part("41: (0 with fewer than two), (1, 0; 0 with fewer than two)");
        oftenIs("no day", thereOn(), 0, 0, 0);
        oftenIs("none", thereOn(false, false), 0, 0, 0);
        oftenIs("one", thereOn(false, true, false), 1, 0, 0);
        oftenIs("the first", thereOn(true), 1, 0, 0);
        oftenIs("two", thereOn(true, true), 2, 1, 0);
        NotWhereYesterday x = thereOn(true);
        x.put(0, 0);
        oftenIs("not in the draft", x, 1, 0, 0);
    }

    private static void oftenFewestDays() {
        Checks.part("41: the fewest DAYS from one such to the next");
        oftenIs("3 then 1", thereOn(true, false, false, true, true), 3, 1, 0);
        oftenIs("1 then 3", thereOn(true, true, false, false, true), 3, 1, 0);
        oftenIs("3 then 3", thereOn(true, false, false, true, false, false, true), 3, 3, 0);
        NotWhereYesterday x = Checks.wall(1, 1);
        Checks.dayOf(x, 0);
        for (int day = 1; day < 59; day++) {
            x.day();
        }
        Checks.dayOf(x, 0);
        oftenIs("59 days", x, 2, 59, 0);
        NotWhereYesterday y = Checks.wall(1, 1);
        y.go(0, 60);
        oftenIs("each of sixty", y, 60, 1, 0);
    }

    private static void oftenEachSecondDay() {
        Checks.part("41: whether it was there just each second DAY from its first such to its last");
        oftenIs("two of them", thereOn(false, true, false, true, false, false), 2, 2, 1);
        oftenIs("three of them", thereOn(true, false, true, false, true), 3, 2, 1);
        oftenIs("one too many", thereOn(true, false, true, true, true), 4, 1, 0);
        oftenIs("one too few", thereOn(true, false, true, false, false, false, true), 3, 2, 0);
        oftenIs("a third day", thereOn(true, false, true, false, false, true), 3, 2, 0);
        oftenIs("a third day first", thereOn(true, false, false, true, false, true), 3, 2, 0);
        NotWhereYesterday x = Checks.wall(2, 1);
        x.go(1, 60);
        Checks.is("by turns", x.often(1, 0), 30);
        Checks.rowIs("by turns", x, 2, 1);
    }

    private static void oftenOfNoneSuch() {
        Checks.part("41: NONE: none such");
        NotWhereYesterday x = Checks.wall(2, 3);
        for (int one : new int[] {-1, 2, 9, 10, LOW, HIGH}) {
            Checks.is("one " + one, x.often(one, 0), NONE);
        }
        for (int post : new int[] {-1, 3, 9, 10, LOW, HIGH}) {
            Checks.is("post " + post, x.often(0, post), NONE);
        }
        Checks.is("the last of each", x.often(1, 2), 0);
    }

    private static NotWhereYesterday rowOf(int... days) {
        NotWhereYesterday x = Checks.wall(3, 1);
        for (int one : days) {
            Checks.dayOf(x, one);
        }
        x.works(0);
        return x;
    }

    private static void alternateIs(NotWhereYesterday x, int days, int... row) {
        Checks.is("days", x.alternate(0), days);
        Checks.rowIs("days", x, row);
    }

    private static void alternateTwoAtLeast() {
        Checks.part("42: how many (2 at least); the ROW: who was there yesterday, the other one");
        alternateIs(rowOf(0, 1), 2, 1, 0);
        alternateIs(rowOf(1, 0), 2, 0, 1);
        alternateIs(rowOf(0, 1, 0), 3, 0, 1);
        alternateIs(rowOf(2, 1, 0), 2, 0, 1);
        alternateIs(rowOf(0, 0, 1), 2, 1, 0);
        NotWhereYesterday x = Checks.wall(2, 1);
        x.go(1, 60);
        alternateIs(x, 60, 1, 0);
    }

    private static void alternateNone() {
        Checks.part("42: 0: none (the ROW is empty)");
        alternateIs(rowOf(), 0);
        alternateIs(rowOf(1), 0);
        alternateIs(rowOf(0, 1, 1), 0);
        alternateIs(rowOf(0, 1, 0, NONE), 0);
        alternateIs(rowOf(0, 1, NONE, 0), 0);
        alternateIs(rowOf(NONE, NONE), 0);
    }

    private static void alternateRightAheadOfToday() {
        Checks.part("42: of DAYS right ahead of TODAY (unlike ones, no DAY without)");
        alternateIs(rowOf(0, 1, 0, 1, 2, 1, 2), 4, 2, 1);
        alternateIs(rowOf(0, 1, 0, 1, 0, NONE, 0, 1), 2, 1, 0);
        alternateIs(rowOf(0, 1, NONE, 1, 0), 2, 0, 1);
        NotWhereYesterday x = rowOf(0, 1);
        x.put(0, 0);
        alternateIs(x, 2, 1, 0);
    }

    private static void alternateOfNoneSuch() {
        Checks.part("42: NONE: none such");
        NotWhereYesterday x = rowOf(0, 1, 0);
        for (int post : new int[] {-1, 1, 9, 10, LOW, HIGH}) {
            Checks.is("post " + post, x.alternate(post), NONE);
        }
        Checks.rowIs("the ROW stays", x, 0, 0);
    }

    private static void chairsOfAllPosts() {
        Checks.part("43: POSTS at which one was on some DAY (bits); the ROW: how many of PEOPLE were at all POSTS");
        NotWhereYesterday x = Checks.wall(10, 10);
        for (int day = 0; day < 10; day++) {
            // at 0 on day 0, then at 9, 8, ..
            Checks.is("ahead of day " + day, x.chairs(0), day == 0 ? 0 : 1 | 1023 & ~(1023 >> day - 1));
            Checks.rowIs("day " + day, x, 0);
            x.go(0, 1);
        }
        Checks.is("all", x.chairs(9), 1023);
        Checks.rowIs("all", x, 10);
        NotWhereYesterday y = Checks.wall(2, 1);
        y.put(0, 1);
        Checks.is("not in the draft", y.chairs(1), 0);
        Checks.rowIs("not in the draft", y, 0);
        y.day();
        Checks.is("one", y.chairs(1), 1);
        Checks.rowIs("one", y, 1);
        Checks.is("the other", y.chairs(0), 0);
        Checks.rowIs("the other", y, 1);
        NotWhereYesterday z = Checks.wall(3, 1);
        z.day();
        Checks.is("nobody was there", z.chairs(0), 0);
        Checks.rowIs("nobody was there", z, 0);
        NotWhereYesterday v = Checks.wall(3, 0);
        v.day();
        Checks.is("of no posts", v.chairs(2), 0);
        Checks.rowIs("of no posts all are all", v, 3);
    }

    private static void chairsOfNoneSuch() {
        Checks.part("43: NONE: none such");
        NotWhereYesterday x = Checks.wall(2, 2);
        for (int one : new int[] {-1, 2, 9, 10, LOW, HIGH}) {
            Checks.is("one " + one, x.chairs(one), NONE);
        }
        Checks.is("the last", x.chairs(1), 0);
    }

    private static void unlikeOfNoDays() {
        Checks.part("44: how many: none went by");
        NotWhereYesterday x = Checks.wall(1, 1);
        Checks.is("no day", x.unlike(), 0);
        x.put(0, 0);
        Checks.is("not the draft", x.unlike(), 0);
        x.day();
        Checks.is("one day", x.unlike(), 1);
    }

    private static void unlikeRightAheadOfToday() {
        Checks.part("44: The longest row of DAYS right ahead of TODAY no two of which had the same FILLING");
        NotWhereYesterday x = Checks.wall(3, 2);
        int[][] days = {{0, 1}, {0, 2}, {0, NONE}, {0, 1}, {NONE, NONE}, {2, 1}, {2, 1}, {1, 2}, {0, 1}};
        int[] due = {1, 2, 3, 3, 4, 5, 1, 2, 3};
        for (int day = 0; day < days.length; day++) {
            Checks.dayOf(x, days[day]);
            Checks.is("behind day " + day, x.unlike(), due[day]);
        }
        NotWhereYesterday y = Checks.wall(1, 10);
        for (int p = 0; p < 10; p++) {
            y.put(p, 0);
            y.day();
            Checks.is("at each post", y.unlike(), p + 1);
        }
        y.put(0, 0);
        y.day();
        Checks.is("the first comes again", y.unlike(), 10);
        y.put(9, 0);
        y.day();
        Checks.is("the last comes again", y.unlike(), 2);
        y.day();
        Checks.is("an empty one is not the last", y.unlike(), 3);
    }

    private static void unlikeOfSixtyDays() {
        Checks.part("44: of sixty DAYS");
        NotWhereYesterday x = Checks.wall(4, 3);
        for (int day = 0; day < 60; day++) {
            Checks.yes("one that was on no DAY", x.fresh() >= 0);
            for (int p = 0; p < 3; p++) {
                x.put(p, x.row(p));
            }
            x.day();
        }
        Checks.is("all are unlike", x.unlike(), 60);
        NotWhereYesterday y = Checks.wall(1, 1);
        y.go(0, 60);
        Checks.is("all are the same", y.unlike(), 1);
    }
}
