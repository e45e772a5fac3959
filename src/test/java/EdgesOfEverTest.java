/** Promises 28 to 36: each sentence that names an edge has a test of its own here. */
public final class EdgesOfEverTest {
    private static final int NONE = NotWhereYesterday.NONE;
    private static final int LOW = Integer.MIN_VALUE;
    private static final int HIGH = Integer.MAX_VALUE;

    public static void main(String[] args) {
        lawOthers();
        lawFrom0To9();
        lawOnNoDays();
        lawLeavesCraftsOut();
        lawIsInsteadForTheCallAlone();
        priceFrom0To9();
        priceAnotherWhat();
        writtenOnFewerDaysThanWhere();
        writtenEachOnce();
        writtenNotOfFreePosts();
        few5And5();
        few120Fillings();
        foreverWhereAndBesideCountAs1();
        foreverNobodyIsAwayNobodyLearns();
        everByPostsThatAreNotThere();
        everOfNoPosts();
        everOfFewerPeople();
        everGoOnForEver();
        roundOfOneDay();
        roundOfMoreDays();
        roundTheLeastThenTheNext();
        roundNone();
        lastsAtMost20();
        lastsWithoutDays();
        lastsFromYesterdayGoodOrNot();
        lastsNoDay();
        lessonsNone();
        lessonsOneAndTwo();
        lessonsTheLeastRow();
        lessonsTwoDoNotDo();
        mostAnotherN();
        mostOfOneToThreeDays();
        mostPartsAboveLong();
        mostByTheRuleAsItIs();
        mostThirdDayByTheFirst();
        mostOfAllDaysTogether();
        mostWithBeingAway();
        mostNobodyLearns();
        mostOfEqualOnesTheLeastRow();
        mostNone();
        freshSomePostsMayBeEmpty();
        freshOnNoDayThatWentBy();
        freshOfEqualOnesTheLeastRow();
        freshNone();
        freshWhereAndBesideAsTheyAre();
        Checks.end();
    }

    private static void lawOthers() {
        Checks.part("28: NONE: others");
        NotWhereYesterday x = Checks.wall(1, 1);
        for (int what : new int[] {-1, 2, 3, LOW, HIGH}) {
            Checks.is("what " + what, x.law(what, 1), NONE);
        }
        for (int n : new int[] {-1, 10, LOW, HIGH}) {
            Checks.is("WHERE " + n, x.law(0, n), NONE);
            Checks.is("BESIDE " + n, x.law(1, n), NONE);
        }
    }

    private static void lawFrom0To9() {
        Checks.part("28: WHERE (what 0), BESIDE (1) of n days (0 .. 9) instead");
        NotWhereYesterday x = Checks.wall(2, 2);
        Checks.dayOf(x, 0, 1);
        for (int day = 1; day < 9; day++) {
            x.day();
        }
        Checks.dayOf(x, 0, 1);
        for (int n = 0; n <= 9; n++) {
            Checks.is("WHERE " + n, x.law(0, n), n < 9 ? 0 : 1);
            Checks.rowIs("WHERE " + n, x, 20);
            Checks.is("BESIDE " + n, x.law(1, n), n < 9 ? 0 : 1);
            Checks.rowIs("BESIDE " + n, x, n == 0 ? 20 : 10);
        }
    }

    private static void lawOnNoDays() {
        Checks.part("28: how many DAYS that went by");
        NotWhereYesterday x = Checks.wall(2, 1);
        Checks.told(x, "a0,0-9");
        x.put(0, 0);
        Checks.is("none, not the draft", x.law(0, 9), 0);
        Checks.rowIs("the other one", x, 10);
        x.day();
        Checks.is("one", x.law(0, 0), 1);
        x.go(0, 59);
        Checks.told(x, "");
        Checks.is("of sixty by turns", x.law(0, 2), 58);
        Checks.rowIs("nobody is left", x, 0);
        Checks.is("of sixty by turns", x.law(0, 1), 0);
        Checks.rowIs("0 is left", x, 10);
    }

    private static void lawLeavesCraftsOut() {
        Checks.part("28: (CRAFTS left out)");
        NotWhereYesterday x = new NotWhereYesterday();
        x.person(0, 9);
        x.post(0, true, 1, 0);
        Checks.dayOf(x, 0);
        x.day();
        Checks.is("neither who can't nor what must", x.law(0, 9), 0);
        Checks.rowIs("best() is by CRAFTS", x, 0);
        Checks.dayOf(x, 0);
        Checks.is("who can't may not, either", x.law(0, 9), 1);
        Checks.told(x, "x0-0");
        Checks.dayOf(x, 0);
        Checks.is("nor from where it is not to go", x.law(0, 0), 1);
    }

    private static void lawIsInsteadForTheCallAlone() {
        Checks.part("28, 29: THE RULE stays");
        NotWhereYesterday x = Checks.wall(2, 2);
        Checks.told(x, "w3;b4");
        for (int n = 0; n <= 9; n++) {
            x.law(0, n);
            x.law(1, n);
        }
        x.price(0);
        x.price(1);
        Checks.is("WHERE", x.count(3), 3);
        Checks.is("BESIDE", x.count(4), 4);
    }

    private static void priceFrom0To9() {
        Checks.part("29: The greatest n (0 .. 9) with which WORTH of best() would be as great as with 0");
        for (int behind = 1; behind <= 10; behind++) {
            NotWhereYesterday x = Checks.wall(1, 1);
            Checks.told(x, "w9");
            Checks.dayOf(x, 0);
            NotWhereYesterday y = Checks.wall(2, 2);
            Checks.told(y, "b9");
            Checks.dayOf(y, 0, 1);
            for (int day = 1; day < behind; day++) {
                x.day();
                y.day();
            }
            Checks.is("WHERE " + behind + " days behind", x.price(0), behind - 1);
            Checks.rowIs("WHERE", x, 10);
            Checks.is("BESIDE " + behind + " days behind", y.price(1), behind - 1);
            Checks.rowIs("BESIDE", y, 20);
        }
        NotWhereYesterday z = Checks.wall(1, 1);
        Checks.told(z, "a0,0-0");
        Checks.is("of nothing", z.price(0), 9);
        Checks.rowIs("of nothing", z, 0);
    }

    private static void priceAnotherWhat() {
        Checks.part("29: NONE: another what");
        NotWhereYesterday x = Checks.wall(1, 1);
        for (int what : new int[] {-1, 2, 3, LOW, HIGH}) {
            Checks.is("what " + what, x.price(what), NONE);
        }
        Checks.is("of no posts", new NotWhereYesterday().price(0), 9);
    }

    private static void writtenOnFewerDaysThanWhere() {
        Checks.part("30: on the WHERE DAYS ahead, on the BESIDE DAYS ahead");
        NotWhereYesterday x = Checks.wall(10, 10);
        for (int day = 0; day < 4; day++) {
            Checks.told(x, "w9;b9");
            Checks.is("of all that went by, ahead of day " + day, x.written(), 10 * day);
            Checks.told(x, "w2;b1");
            Checks.is("of two of them at most", x.written(), 10 * Math.min(day, 2));
            Checks.rowIs("of one at most", x, day == 0 ? 0 : 9);
            Checks.told(x, "w0;b0");
            Checks.is("of none", x.written(), 0);
            Checks.rowIs("of none", x, 0);
            Checks.told(x, "w1;b1");
            x.sheet(2, 5, 0, 2);
            Checks.is("not of the draft", x.written(), day == 0 ? 0 : 10);
            Checks.rowIs("not of the draft", x, day == 0 ? 0 : 9);
            x.sheet(3, 0, 0, 0);
            x.go(0, 1);
        }
    }

    private static void writtenEachOnce() {
        Checks.part("30: each of one and a POST once; each two once");
        NotWhereYesterday x = Checks.wall(10, 10);
        Checks.told(x, "w9;b9");
        for (int day = 0; day < 9; day++) {
            x.sheet(2, 10, day % 2 == 0 ? 0 : 9, day % 2 == 0 ? 1 : -1);
            x.day();
        }
        Checks.is("there and back", x.written(), 20);
        Checks.rowIs("beside the same", x, 9);
    }

    private static void writtenNotOfFreePosts() {
        Checks.part("30: (not FREE)");
        NotWhereYesterday x = Checks.wall(3, 3);
        Checks.dayOf(x, 0, 1, 2);
        Checks.told(x, "w1;b1;f0;f1;f2");
        Checks.is("all are free", x.written(), 0);
        Checks.rowIs("beside is written all the same", x, 2);
        Checks.told(x, "w1;b1;f1;f9");
        Checks.is("one is free", x.written(), 2);
    }

    private static void few5And5() {
        Checks.part("few: at most 5 PEOPLE, 5 POSTS; else -3");
        int[][] many = {{6, 0}, {0, 6}, {6, 5}, {5, 6}, {10, 10}};
        for (int[] house : many) {
            NotWhereYesterday x = Checks.wall(house[0], house[1]);
            String with = house[0] + " of " + house[1] + ", ";
            Checks.is(with + "ever", x.ever(), -3);
            Checks.is(with + "round", x.round(), -3);
            Checks.is(with + "lasts", x.lasts(), -3);
            Checks.is(with + "lessons", x.lessons(), -3);
            Checks.is(with + "most(1)", x.most(1), -3);
            Checks.is(with + "most(2)", x.most(2), -3);
            Checks.is(with + "most(3)", x.most(3), -3);
            Checks.is(with + "fresh", x.fresh(), -3);
        }
        NotWhereYesterday x = Checks.wall(5, 5);
        Checks.is("5 of 5, ever", x.ever(), 120);
        Checks.is("5 of 5, round", x.round(), 1);
        Checks.is("5 of 5, lasts", x.lasts(), 20);
        Checks.is("5 of 5, lessons", x.lessons(), 0);
        Checks.is("5 of 5, most", x.most(1), 50);
        Checks.is("5 of 5, fresh", x.fresh(), 50);
    }

    /** The first POST is done by the last of five alone: the last 24 of the 120 FILLINGS. */
    private static NotWhereYesterday lastOfFive() {
        NotWhereYesterday x = new NotWhereYesterday();
        for (int a = 0; a < 5; a++) {
            x.person(a == 4 ? 1 : 0, 1);
        }
        x.post(0, true, 1, 0);
        for (int p = 1; p < 5; p++) {
            x.post(NONE, true, 1, 0);
        }
        return x;
    }

    private static void few120Fillings() {
        Checks.part("few: at most 5 PEOPLE, 5 POSTS: the last of their FILLINGS");
        NotWhereYesterday x = lastOfFive();
        Checks.told(x, "w1;f0");
        Checks.is("ever", x.ever(), 24);
        Checks.rowIs("ever", x, 24);
        Checks.is("round", x.round(), 2);
        Checks.rowIs("round", x, 4, 0, 1, 2, 3, 4, 1, 0, 3, 2);
        Checks.is("lasts", x.lasts(), 20);
        Checks.is("most", x.most(2), 100);
        Checks.rowIs("most", x, 4, 0, 1, 2, 3, 4, 1, 0, 3, 2);
        Checks.dayOf(x, 4, 3, 2, 1, 0);
        Checks.is("lasts behind the last of them", x.lasts(), 20);
        Checks.told(x, "w1");
        Checks.is("4 can't stay", x.ever(), 0);
        Checks.rowIs("4 can't stay", x, 24);
        Checks.is("round", x.round(), -2);
        Checks.is("lasts", x.lasts(), 0);
        Checks.is("lessons", x.lessons(), 1);
        Checks.rowIs("lessons", x, 0, 0);
        x.put(0, 0);
        x.day();
        Checks.is("0 has learnt", x.ever(), 48);
        Checks.rowIs("0 has learnt", x, 48);
        Checks.is("0 and 4 by turns", x.round(), 2);
        Checks.rowIs("0 and 4 by turns", x, 0, 1, 2, 3, 4, 4, 0, 1, 2, 3);
        Checks.told(x, "f0");
        Checks.is("ever", x.ever(), 48);
        Checks.is("round", x.round(), 1);
    }

    private static void foreverWhereAndBesideCountAs1() {
        Checks.part("for ever: WHERE and BESIDE count as 1, if they are more");
        for (int n = 1; n <= 9; n++) {
            NotWhereYesterday x = Checks.wall(2, 2);
            Checks.told(x, "w" + n);
            Checks.is("ever, w" + n, x.ever(), 2);
            Checks.is("round, w" + n, x.round(), 2);
            Checks.is("lessons, w" + n, x.lessons(), 0);
            Checks.dayOf(x, 0, 1);
            Checks.dayOf(x, 1, 0);
            Checks.is("lasts, w" + n, x.lasts(), 20);
            NotWhereYesterday y = Checks.wall(3, 2);
            Checks.told(y, "b" + n);
            Checks.is("ever, b" + n, y.ever(), 6);
            Checks.is("round, b" + n, y.round(), 2);
            Checks.rowIs("round, b" + n, y, 0, 1, 0, 2);
            Checks.dayOf(y, 0, 1);
            Checks.dayOf(y, 0, 2);
            Checks.dayOf(y, 1, 2);
            Checks.is("lasts, b" + n, y.lasts(), 20);
        }
        for (int n = 1; n <= 9; n++) {
            NotWhereYesterday z = Checks.wall(2, 2);
            Checks.told(z, "b" + n);
            Checks.dayOf(z, 0, 1);
            Checks.is("they were neighbours yesterday, b" + n, z.lasts(), 0);
            z.day();
            Checks.is("they were two days ago, b" + n, z.lasts(), 1);
            NotWhereYesterday v = Checks.wall(1, 1);
            Checks.told(v, "w" + n);
            Checks.dayOf(v, 0);
            Checks.is("it was there yesterday, w" + n, v.lasts(), 0);
            v.day();
            Checks.is("it was there two days ago, w" + n, v.lasts(), 1);
        }
        NotWhereYesterday x = Checks.wall(1, 1);
        Checks.told(x, "w0;b0");
        Checks.is("0 is not 1", x.ever(), 1);
        Checks.dayOf(x, 0);
        Checks.is("0 is not 1", x.lasts(), 20);
    }

    private static void foreverNobodyIsAwayNobodyLearns() {
        Checks.part("for ever: nobody is away, nobody learns");
        NotWhereYesterday x = new NotWhereYesterday();
        x.person(0, 1);
        x.person(1, 1);
        x.post(0, true, 1, 0);
        Checks.told(x, "a0,0-99;a1,0-99");
        Checks.is("ever", x.ever(), 1);
        Checks.is("round", x.round(), 1);
        Checks.rowIs("round", x, 1, 1);
        Checks.is("lasts", x.lasts(), 20);
        Checks.is("lessons", x.lessons(), 0);
        Checks.told(x, "w1");
        Checks.is("ever", x.ever(), 0);
        Checks.is("lasts", x.lasts(), 1);
    }

    private static void everByPostsThatAreNotThere() {
        Checks.part("THE RULE may name POSTS that are not there: they bar nothing");
        NotWhereYesterday x = Checks.wall(2, 2);
        Checks.told(x, "w1;x2-0;x2-1;x3-0;x4-1;x9-0;x0-2;f3");
        Checks.is("ever", x.ever(), 2);
        Checks.is("round", x.round(), 2);
        Checks.is("most", x.most(2), 40);
        Checks.dayOf(x, 0, 1);
        Checks.is("lasts", x.lasts(), 20);
        Checks.is("fresh", x.fresh(), 20);
        x.post(NONE, true, 1, 0);
        x.person(0, 1);
        Checks.told(x, "x2-0;x2-1;x2-2");
        Checks.is("then one is: nobody stays on", x.ever(), 0);
    }

    private static void everOfNoPosts() {
        Checks.part("31: of no POSTS there is one FILLING");
        for (int people = 0; people <= 5; people++) {
            NotWhereYesterday x = Checks.wall(people, 0);
            Checks.told(x, "w1;b1");
            Checks.is("ever", x.ever(), 1);
            Checks.rowIs("ever", x, 1);
            Checks.is("round", x.round(), 1);
            Checks.rowIs("round", x);
            Checks.is("lasts", x.lasts(), 20);
            Checks.is("most", x.most(3), 0);
            Checks.rowIs("most", x);
        }
    }

    private static void everOfFewerPeople() {
        Checks.part("31: FILLINGS of all POSTS by those who CAN: of fewer PEOPLE none");
        for (int posts = 1; posts <= 5; posts++) {
            for (int people = 0; people <= 5; people++) {
                NotWhereYesterday x = Checks.wall(people, posts);
                int due = 1;
                for (int p = 0; p < posts; p++) {
                    due *= Math.max(0, people - p);
                }
                Checks.is(people + " of " + posts, x.ever(), due);
                Checks.rowIs(people + " of " + posts, x, due);
            }
        }
    }

    private static void everGoOnForEver() {
        Checks.part("31: from which one can go on for ever; the ROW: how many there are");
        NotWhereYesterday x = Checks.wall(1, 1);
        Checks.told(x, "w1");
        Checks.is("not from the only one", x.ever(), 0);
        Checks.rowIs("there is one", x, 1);
        Checks.told(x, "w1;f0");
        Checks.is("but if it is free", x.ever(), 1);
        // by CRAFTS 0 2, 1 0, 2 1 and so on: from some there is a next one, but none behind that
        NotWhereYesterday z = new NotWhereYesterday();
        z.person(1, 9);
        z.person(3, 9);
        z.person(2, 9);
        z.post(0, true, 1, 0);
        z.post(1, true, 1, 0);
        Checks.told(z, "w1;x0-0");
        Checks.is("0 1, 1 2, 0 1 go on", z.ever(), 2);
        Checks.rowIs("0 1, 0 2, 1 2", z, 3);
        Checks.told(z, "w1;x0-1");
        Checks.is("1 2 is behind 0 1 and ends there", z.ever(), 0);
        Checks.is("two days", z.lasts(), 2);
        NotWhereYesterday y = Checks.wall(5, 5);
        Checks.told(y, "x0-1;x0-2;x0-3;x0-4;x0-0");
        Checks.is("of five of five nobody comes from post 0", y.ever(), 0);
        Checks.rowIs("of five of five", y, 120);
        Checks.is("one day each", y.lasts(), 1);
        Checks.told(y, "w1;b1");
        Checks.is("1 3 0 4 2 can be behind 0 1 2 3 4, and so behind each", y.ever(), 120);
    }

    private static void roundOfOneDay() {
        Checks.part("32: The fewest DAYS behind which a FILLING could come again: 1");
        NotWhereYesterday x = Checks.wall(2, 2);
        Checks.is("each day the same", x.round(), 1);
        Checks.rowIs("it and it again", x, 0, 1, 0, 1);
        Checks.told(x, "w1;f0;f1");
        Checks.is("each is free", x.round(), 1);
        Checks.told(x, "w1;f0");
        Checks.is("one is free", x.round(), 2);
        Checks.rowIs("one is free", x, 0, 1, 1, 0);
        x.person(0, 1);
        Checks.is("one is free, three of people", x.round(), 2);
        Checks.rowIs("the first stays", x, 0, 1, 0, 2);
    }

    private static void roundOfMoreDays() {
        Checks.part("32: The fewest DAYS, 2 to 6");
        for (int n = 2; n <= 4; n++) {
            NotWhereYesterday x = Checks.wall(n, n);
            // each one goes to the post behind alone, from the last to the first
            StringBuilder rule = new StringBuilder("w1");
            for (int from = 0; from < n; from++) {
                for (int to = 0; to < n; to++) {
                    if (to != from && to != (from + 1) % n) {
                        rule.append(";x").append(from).append('-').append(to);
                    }
                }
            }
            Checks.yes("a rule", Checks.told(x, rule.toString()) > 0);
            Checks.is("round of " + n, x.round(), n);
            int[] row = new int[2 * n];
            for (int p = 0; p < n; p++) {
                row[p] = p;
                row[n + p] = (p + n - 1) % n;
            }
            Checks.rowIs("round of " + n, x, row);
        }
        // 0 1 2 3 4 at five: from 0 to 1 to 2 to 0, and from 3 to 4 to 3: six days
        NotWhereYesterday y = Checks.wall(5, 5);
        Checks.told(y, "w1;x0-2;x0-3;x0-4;x1-0;x1-3;x1-4;x2-1;x2-3;x2-4;x3-0;x3-1");
        Checks.is("two rounds in one", y.round(), 6);
        Checks.rowIs("two rounds in one", y, 0, 1, 2, 3, 4, 2, 0, 1, 4, 3);
    }

    private static void roundTheLeastThenTheNext() {
        Checks.part("32: the ROW: the least such FILLING, then the next one on such a round (of equal ones the least)");
        NotWhereYesterday x = Checks.wall(3, 1);
        Checks.told(x, "w1");
        Checks.is("two", x.round(), 2);
        Checks.rowIs("the least two", x, 0, 1);
        NotWhereYesterday y = Checks.wall(4, 2);
        Checks.told(y, "w1");
        Checks.is("two", y.round(), 2);
        Checks.rowIs("the least behind 0 1", y, 0, 1, 1, 0);
        Checks.told(y, "w1;b1");
        Checks.is("two, not beside", y.round(), 2);
        Checks.rowIs("the least behind 0 1, not beside", y, 0, 1, 1, 2);
        NotWhereYesterday z = new NotWhereYesterday();
        z.person(0, 9);
        z.person(1, 9);
        z.person(1, 9);
        z.post(0, true, 1, 0);
        Checks.told(z, "w1");
        Checks.is("of those who can", z.round(), 2);
        Checks.rowIs("the least that can", z, 1, 2);
    }

    private static void roundNone() {
        Checks.part("32: -2: none");
        Checks.is("fewer people", Checks.wall(1, 2).round(), -2);
        Checks.is("nobody", Checks.wall(0, 1).round(), -2);
        NotWhereYesterday x = Checks.wall(1, 1);
        Checks.told(x, "x0-0");
        Checks.is("nobody stays", x.round(), -2);
        NotWhereYesterday y = new NotWhereYesterday();
        y.person(0, 9);
        y.post(5, true, 1, 0);
        Checks.is("nobody can", y.round(), -2);
        y.person(32, 9);
        Checks.told(y, "w1");
        Checks.is("one can, and not by way of who can't", y.round(), -2);
        Checks.told(y, "w0");
        Checks.is("one can", y.round(), 1);
        Checks.rowIs("one can", y, 1, 1);
    }

    private static void lastsAtMost20() {
        Checks.part("33: at most 20");
        NotWhereYesterday x = Checks.wall(1, 1);
        Checks.is("for ever", x.lasts(), 20);
        x.go(0, 60);
        Checks.is("behind sixty days, too", x.lasts(), 20);
    }

    private static void lastsWithoutDays() {
        Checks.part("33: (without DAYS the first one may be any)");
        NotWhereYesterday x = Checks.wall(1, 1);
        Checks.told(x, "w1");
        Checks.is("the first, and no other", x.lasts(), 1);
        x.put(0, 0);
        Checks.is("the draft is not yesterday's", x.lasts(), 1);
        x.day();
        Checks.is("from it none", x.lasts(), 0);
        x.day();
        Checks.is("from an empty one any", x.lasts(), 1);
    }

    private static void lastsFromYesterdayGoodOrNot() {
        Checks.part("33: from yesterday's FILLING (as it was, GOOD or not)");
        NotWhereYesterday x = new NotWhereYesterday();
        x.person(0, 9);
        x.person(1, 9);
        x.person(1, 9);
        x.post(0, true, 1, 0);
        Checks.told(x, "a1,0-9;w1");
        Checks.dayOf(x, 1);
        Checks.is("from one who was away", x.lasts(), 20);
        Checks.told(x, "w1;x0-0");
        Checks.is("nobody stays: 2 comes", x.lasts(), 20);
        Checks.dayOf(x, 0);
        Checks.is("from one who can't", x.lasts(), 20);
        NotWhereYesterday y = Checks.wall(3, 2);
        Checks.told(y, "w1;x0-1;x1-0");
        Checks.dayOf(y, 0);
        Checks.is("from one with an empty post: one day more", y.lasts(), 1);
        Checks.dayOf(y, 0, 1);
        Checks.is("from a full one: none", y.lasts(), 0);
    }

    private static void lastsNoDay() {
        Checks.part("33: no day");
        Checks.is("fewer people", Checks.wall(1, 2).lasts(), 0);
        Checks.is("nobody", Checks.wall(0, 1).lasts(), 0);
        NotWhereYesterday x = Checks.wall(2, 2);
        Checks.told(x, "b1");
        Checks.dayOf(x, 1, 0);
        Checks.is("they were neighbours", x.lasts(), 0);
        Checks.told(x, "b0");
        Checks.is("they may", x.lasts(), 20);
    }

    private static NotWhereYesterday unlearned(int people, int... crafts) {
        NotWhereYesterday x = new NotWhereYesterday();
        for (int a = 0; a < people; a++) {
            x.person(0, 9);
        }
        for (int craft : crafts) {
            x.post(craft, true, 1, 0);
        }
        return x;
    }

    private static void lessonsNone() {
        Checks.part("34: 0 LESSONS");
        NotWhereYesterday x = Checks.wall(1, 1);
        x.works(0);
        Checks.is("none is needed", x.lessons(), 0);
        Checks.rowIs("none is needed", x);
        Checks.is("of no posts", Checks.wall(0, 0).lessons(), 0);
    }

    private static void lessonsOneAndTwo() {
        Checks.part("34: 1, 2 LESSONS (one of PEOPLE has a CRAFT more)");
        for (int craft = 0; craft < 6; craft++) {
            NotWhereYesterday x = unlearned(1, craft);
            Checks.is("one", x.lessons(), 1);
            Checks.rowIs("one", x, 0, craft);
            NotWhereYesterday y = unlearned(5, NONE, craft, NONE, 5 - craft, NONE);
            Checks.is("two", y.lessons(), 2);
            Checks.rowIs("two", y, 0, Math.min(craft, 5 - craft), 1, Math.max(craft, 5 - craft));
            Checks.is("it has none more", y.crafts(0, NONE), 0);
        }
        NotWhereYesterday z = unlearned(1, 3);
        Checks.told(z, "f0;w1");
        Checks.is("one that is free", z.lessons(), 1);
        z.person(8, 9);
        Checks.is("one who can", z.lessons(), 0);
        Checks.told(z, "w1");
        Checks.is("one more", z.lessons(), 1);
        Checks.rowIs("one more", z, 0, 3);
    }

    private static void lessonsTheLeastRow() {
        Checks.part("34: of as few the least row (each after the one ahead)");
        NotWhereYesterday x = unlearned(5, 5);
        Checks.is("one", x.lessons(), 1);
        Checks.rowIs("the first of five", x, 0, 5);
        Checks.told(x, "w1");
        Checks.is("two", x.lessons(), 2);
        Checks.rowIs("the first two of five", x, 0, 5, 1, 5);
        NotWhereYesterday y = new NotWhereYesterday();
        y.person(0, 9);
        y.person(0, 9);
        y.person(4, 9);
        y.post(4, true, 1, 0);
        y.post(2, true, 1, 0);
        // of two who go to and fro the one has both, the other none: two, one right behind the other
        NotWhereYesterday z = new NotWhereYesterday();
        z.person(0, 9);
        z.person(12, 9);
        z.post(3, true, 1, 0);
        z.post(2, true, 1, 0);
        Checks.told(z, "w1");
        Checks.is("both", z.lessons(), 2);
        Checks.rowIs("both", z, 0, 2, 0, 3);
        // one has 2; 4 is learnt by 0 first, or by 1, or by 2, which would leave 2 to another
        Checks.is("one", y.lessons(), 1);
        Checks.rowIs("one", y, 0, 4);
    }

    private static void lessonsTwoDoNotDo() {
        Checks.part("34: -2: two do not do");
        NotWhereYesterday x = unlearned(3, 0, 1, 2);
        Checks.is("three are needed", x.lessons(), -2);
        NotWhereYesterday y = unlearned(3, 0, 1);
        Checks.is("two are", y.lessons(), 2);
        Checks.rowIs("two are", y, 0, 0, 1, 1);
        Checks.is("fewer people", Checks.wall(1, 2).lessons(), -2);
        NotWhereYesterday z = Checks.wall(1, 1);
        Checks.told(z, "x0-0");
        Checks.is("no craft helps", z.lessons(), -2);
    }

    private static void mostAnotherN() {
        Checks.part("35: NONE: another n");
        for (int people : new int[] {0, 5, 6}) {
            for (int posts : new int[] {0, 5, 6}) {
                NotWhereYesterday x = Checks.wall(people, posts);
                for (int n : new int[] {-1, 0, 4, LOW, HIGH}) {
                    Checks.is(n + " days, " + people + " of " + posts, x.most(n), NONE);
                }
            }
        }
    }

    private static void mostOfOneToThreeDays() {
        Checks.part("35: n DAYS (1 .. 3); the ROW: FILLINGS, DAY by DAY");
        NotWhereYesterday x = Checks.wall(2, 2);
        Checks.told(x, "w1");
        Checks.is("one", x.most(1), 20);
        Checks.rowIs("one", x, 0, 1);
        Checks.is("two", x.most(2), 40);
        Checks.rowIs("two", x, 0, 1, 1, 0);
        Checks.is("three", x.most(3), 60);
        Checks.rowIs("three", x, 0, 1, 1, 0, 0, 1);
        NotWhereYesterday y = Checks.wall(5, 5);
        Checks.is("five of five", y.most(3), 150);
        Checks.rowIs("five of five", y, 0, 1, 2, 3, 4, 0, 1, 2, 3, 4, 0, 1, 2, 3, 4);
        y.go(0, 60);
        Checks.is("behind sixty days, too", y.most(3), 150);
    }

    private static void mostPartsAboveLong() {
        Checks.part("35: parts above LONG counted, too");
        NotWhereYesterday x = Checks.wall(2, 0);
        x.post(NONE, true, 1, 10);
        Checks.is("three works of one day", x.most(3), 30);
        Checks.rowIs("three works of one day", x, 0, 0, 0);
        Checks.told(x, "w1");
        Checks.is("the first alone brings any", x.most(3), 10);
        Checks.dayOf(x, 0);
        Checks.is("it was handed on already", x.most(3), 0);
        Checks.rowIs("none is -2", x, 1, 0, 1);
    }

    private static void mostByTheRuleAsItIs() {
        Checks.part("35: by THE RULE as it is (WHERE and BESIDE do not count as 1)");
        NotWhereYesterday x = Checks.wall(3, 1);
        Checks.dayOf(x, 0);
        Checks.dayOf(x, 1);
        Checks.told(x, "w1");
        Checks.is("by w1", x.most(3), 30);
        Checks.rowIs("by w1", x, 0, 1, 0);
        Checks.told(x, "w2");
        Checks.is("by w2", x.most(3), 30);
        Checks.rowIs("by w2", x, 2, 0, 1);
        Checks.told(x, "w3");
        Checks.is("by w3, one day", x.most(1), 10);
        Checks.rowIs("by w3, one day", x, 2);
        Checks.is("by w3, two days", x.most(2), -2);
        x.day();
        Checks.is("by w3, a day without, two days", x.most(2), 20);
        Checks.rowIs("by w3, a day without, two days", x, 2, 0);
        NotWhereYesterday y = Checks.wall(3, 2);
        Checks.dayOf(y, 0, 1);
        Checks.told(y, "b3");
        Checks.is("by b3, two days", y.most(2), 40);
        Checks.rowIs("by b3, two days", y, 0, 2, 1, 2);
        Checks.is("by b3, three days", y.most(3), -2);
        Checks.told(y, "b2");
        Checks.is("by b2, three days", y.most(3), 60);
        Checks.rowIs("by b2, three days", y, 0, 2, 1, 2, 0, 1);
    }

    private static void mostThirdDayByTheFirst() {
        Checks.part("35: each GOOD from TODAY on: the third DAY by the first of them");
        String[] rules = {"w0", "w1", "w2", "w3", "w9", "w2;f0", "w2;f1", "w1;x0-0"};
        int[][] due = {{0, 0, 0}, {0, 1, 0}, {0, 1, 2}, {0, 1, 2}, {0, 1, 2}, {0, 0, 0}, {0, 1, 2}, {0, 1, 0}};
        NotWhereYesterday x = Checks.wall(3, 1);
        for (int i = 0; i < rules.length; i++) {
            Checks.told(x, rules[i]);
            Checks.is(rules[i], x.most(3), 30);
            Checks.rowIs(rules[i], x, due[i]);
        }
        NotWhereYesterday y = Checks.wall(3, 2);
        String[] beside = {"b0", "b1", "b2", "b3", "b9"};
        int[][] row = {{0, 1, 0, 1, 0, 1}, {0, 1, 0, 2, 0, 1}, {0, 1, 0, 2, 1, 2}, {0, 1, 0, 2, 1, 2}, {0, 1, 0, 2, 1, 2}};
        for (int i = 0; i < beside.length; i++) {
            Checks.told(y, beside[i]);
            Checks.is(beside[i], y.most(3), 60);
            Checks.rowIs(beside[i], y, row[i]);
        }
        NotWhereYesterday z = Checks.wall(2, 2);
        Checks.told(z, "w2");
        Checks.is("two days", z.most(2), 40);
        Checks.is("of two nobody is left", z.most(3), -2);
        Checks.told(z, "w2;f1");
        Checks.is("at the one", z.most(3), -2);
        Checks.told(z, "w2;f0;f1");
        Checks.is("at neither", z.most(3), 60);
    }

    private static void mostOfAllDaysTogether() {
        Checks.part("35: The most parts that n DAYS could bring");
        NotWhereYesterday x = Checks.wall(3, 0);
        x.post(NONE, true, 1, 7);
        x.post(NONE, true, 1, 2);
        // 0 1 would be first, but 2 alone can be there on all three, and 1 on two of them
        Checks.told(x, "a0,1-1;a1,2-2");
        Checks.is("2 at the one with the greater loss", x.most(3), 58);
        Checks.rowIs("2 at the one with the greater loss", x, 2, 1, 2, 1, 2, 0);
        Checks.told(x, "a0,1-1");
        Checks.is("two days", x.most(2), 40);
        Checks.rowIs("two days", x, 1, 2, 1, 2);
        NotWhereYesterday y = Checks.wall(3, 0);
        y.post(NONE, true, 9, 5);
        Checks.dayOf(y, 2);
        Checks.told(y, "a0,1-1;a1,2-3;a2,2-3");
        Checks.is("2 goes on, then 0 alone", y.most(3), 25);
        Checks.rowIs("2 goes on, then 0 alone", y, 2, 0, 0);
    }

    private static void mostWithBeingAway() {
        Checks.part("35: (with being away)");
        NotWhereYesterday x = Checks.wall(2, 1);
        Checks.told(x, "a0,0-0;a1,1-1;a0,2-2;a0,3-3;a1,3-3");
        Checks.is("three days", x.most(3), 30);
        Checks.rowIs("three days", x, 1, 0, 1);
        x.day();
        Checks.is("two days", x.most(2), 20);
        Checks.is("on day 3 nobody is left", x.most(3), -2);
        Checks.told(x, "a0,60-60;a1,61-61;a0,62-62");
        x.go(0, 59);
        Checks.is("behind the last DAY", x.most(3), 30);
        Checks.rowIs("behind the last DAY", x, 1, 0, 1);
    }

    private static void mostNobodyLearns() {
        Checks.part("35: nobody learns; by those who CAN");
        NotWhereYesterday x = unlearned(1, 0);
        Checks.is("one day", x.most(1), -2);
        Checks.is("three days", x.most(3), -2);
    }

    private static void mostOfEqualOnesTheLeastRow() {
        Checks.part("35: of equal ones the least row");
        NotWhereYesterday x = Checks.wall(3, 0);
        x.post(NONE, true, 9, 5);
        Checks.dayOf(x, 2);
        Checks.is("2 goes on", x.most(1), 10);
        Checks.rowIs("2 goes on", x, 2);
        Checks.told(x, "w1");
        Checks.is("0 or 1", x.most(1), 5);
        Checks.rowIs("0", x, 0);
        Checks.is("0, then 1 or 2", x.most(2), 10);
        Checks.rowIs("1", x, 0, 1);
        Checks.is("then 0 or 2", x.most(3), 15);
        Checks.rowIs("0", x, 0, 1, 0);
    }

    private static void mostNone() {
        Checks.part("35: -2: none");
        Checks.is("fewer people", Checks.wall(1, 2).most(1), -2);
        Checks.is("nobody", Checks.wall(0, 1).most(3), -2);
        NotWhereYesterday x = Checks.wall(1, 1);
        Checks.told(x, "w1");
        Checks.is("one day", x.most(1), 10);
        Checks.is("no second one", x.most(2), -2);
        Checks.dayOf(x, 0);
        Checks.is("nor a first", x.most(1), -2);
    }

    private static void freshSomePostsMayBeEmpty() {
        Checks.part("36: (some POSTS may be empty, all may)");
        NotWhereYesterday x = Checks.wall(1, 2);
        Checks.is("one of two", x.fresh(), 10);
        Checks.rowIs("one of two", x, NONE, 0);
        Checks.dayOf(x, NONE, 0);
        Checks.is("the other", x.fresh(), 10);
        Checks.rowIs("the other", x, 0, NONE);
        Checks.dayOf(x, 0);
        Checks.is("all empty", x.fresh(), 0);
        Checks.rowIs("all empty", x, NONE, NONE);
        Checks.is("of nobody", Checks.wall(0, 5).fresh(), 0);
        Checks.is("of no posts", Checks.wall(5, 0).fresh(), 0);
    }

    private static void freshOnNoDayThatWentBy() {
        Checks.part("36: that were on no DAY that went by");
        NotWhereYesterday x = Checks.wall(2, 1);
        x.put(0, 0);
        Checks.is("the draft has not gone by", x.fresh(), 10);
        Checks.rowIs("the draft has not gone by", x, 0);
        Checks.dayOf(x, 0);
        x.go(1, 1);
        for (int day = 2; day < 60; day++) {
            Checks.is("both were", x.fresh(), 0);
            Checks.rowIs("both were", x, NONE);
            x.put(0, day % 2);
            x.day();
        }
        Checks.is("sixty went by", x.fresh(), 0);
    }

    private static void freshOfEqualOnesTheLeastRow() {
        Checks.part("36: of equal ones the least row");
        NotWhereYesterday x = Checks.wall(5, 5);
        Checks.dayOf(x, 0, 1, 2, 3, 4);
        Checks.is("the next one", x.fresh(), 50);
        Checks.rowIs("the next one", x, 0, 1, 2, 4, 3);
        NotWhereYesterday y = Checks.wall(1, 5);
        Checks.is("NONE is least", y.fresh(), 10);
        Checks.rowIs("NONE is least", y, NONE, NONE, NONE, NONE, 0);
        NotWhereYesterday z = Checks.wall(1, 1);
        z.post(NONE, true, 1, 0);
        Checks.is("which must", z.fresh(), 1010);
        Checks.rowIs("which must", z, NONE, 0);
    }

    private static void freshNone() {
        Checks.part("36: -2: none");
        NotWhereYesterday x = Checks.wall(1, 1);
        x.day();
        Checks.dayOf(x, 0);
        Checks.is("both were", x.fresh(), -2);
        x.post(NONE, false, 1, 0);
        Checks.is("with a post more there are others", x.fresh(), 10);
        Checks.rowIs("with a post more there are others", x, NONE, 0);
        NotWhereYesterday y = new NotWhereYesterday();
        Checks.is("of no posts, ahead of day 0", y.fresh(), 0);
        y.day();
        Checks.is("of no posts, behind it", y.fresh(), -2);
    }

    private static void freshWhereAndBesideAsTheyAre() {
        Checks.part("36: (WHERE and BESIDE as they are)");
        for (int n = 0; n <= 9; n++) {
            NotWhereYesterday x = Checks.wall(2, 2);
            Checks.dayOf(x, 0, 1);
            for (int day = 0; day < 4; day++) {
                Checks.dayOf(x, NONE, NONE);
            }
            Checks.told(x, "w" + n);
            Checks.is("w" + n, x.fresh(), 20);
            Checks.rowIs("w" + n, x, 1, 0);
            Checks.told(x, "b" + n);
            Checks.is("b" + n, x.fresh(), n < 5 ? 20 : 10);
            if (n < 5) {
                Checks.rowIs("b" + n, x, 1, 0);
            } else {
                Checks.rowIs("b" + n, x, NONE, 0);
            }
            // 1 at 0 is not to go on; 0 was at 1 yesterday, at 0 six days ago; all empty was on four days
            Checks.dayOf(x, 1, 0);
            Checks.told(x, "x0-0;w" + n + ";x0-1");
            Checks.is("w" + n + ", 1 is not to go on", x.fresh(), n < 6 ? 10 : -2);
            if (n < 6) {
                Checks.rowIs("w" + n + ", 1 is not to go on", x, n == 0 ? NONE : 0, n == 0 ? 0 : NONE);
            }
        }
    }
}
