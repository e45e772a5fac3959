/** Promises 10 to 17: each sentence that names an edge has a test of its own here. */
public final class EdgesOfDaysTest {
    private static final int NONE = NotWhereYesterday.NONE;
    private static final int LOW = Integer.MIN_VALUE;
    private static final int HIGH = Integer.MAX_VALUE;

    public static void main(String[] args) {
        putWhomItHad();
        putOfOneAtAnotherPost();
        putOthers();
        putOthersAheadOfAnotherPost();
        sheetOfAllNumbersOfEntries();
        sheetOfMorePostsOrFewer();
        sheetOfBytes();
        sheetOfShorts();
        sheetOfInts();
        sheetOfNoneOfPeople();
        sheetOfOneTwice();
        sheetMissing();
        sheetBelow0();
        sheetOthers();
        goodOfNoPosts();
        goodOfTen();
        goodFirstOfTheReasons();
        goodNeighboursAtThePostAhead();
        dayGoodOrNot();
        dayRefusesThe61st();
        whoTodayInTheDraft();
        whoNoneSuch();
        judgeFromOneOn();
        judgeTheFirstSuchPost();
        judgeMustBeFilled();
        judgeByCraftsAsTheyAreNow();
        judgeNone();
        judgeNoSuchDay();
        brokenOnNoDays();
        brokenNotByTheDraft();
        brokenFirstReasonAlone();
        brokenOftenOnAllDays();
        worksAtFirst();
        worksPartsAtTheirEdge();
        worksOfNoneSuch();
        Checks.end();
    }

    private static void draftIs(String what, NotWhereYesterday x, int... people) {
        for (int p = 0; p < people.length; p++) {
            Checks.is(what + ", post " + p, x.who(x.count(2), p), people[p]);
        }
    }

    private static void putWhomItHad() {
        Checks.part("10: a POST has one of PEOPLE (NONE: nobody): whom it had");
        NotWhereYesterday x = Checks.wall(10, 10);
        Checks.is("nobody, of nobody", x.put(9, NONE), NONE);
        Checks.is("the last of each", x.put(9, 9), NONE);
        Checks.is("the same one", x.put(9, 9), 9);
        Checks.is("another one", x.put(9, 0), 9);
        Checks.is("who left can go on", x.put(0, 9), NONE);
        Checks.is("nobody, of one", x.put(9, NONE), 0);
        Checks.is("nobody, of nobody", x.put(9, NONE), NONE);
        draftIs("the first has the last", x, 9, NONE, NONE, NONE, NONE, NONE, NONE, NONE, NONE, NONE);
    }

    private static void putOfOneAtAnotherPost() {
        Checks.part("10: -2: the one is at another POST");
        NotWhereYesterday x = Checks.wall(3, 4);
        x.put(0, 0);
        x.put(3, 1);
        Checks.is("at the first", x.put(1, 0), -2);
        Checks.is("at the last", x.put(2, 1), -2);
        Checks.is("to a post that has one", x.put(3, 0), -2);
        draftIs("all stay", x, 0, NONE, NONE, 1);
        x.day();
        Checks.is("of yesterday is no other post", x.put(1, 0), NONE);
        x.go(0, 59);
        x.put(0, 0);
        Checks.is("behind the last DAY, too", x.put(1, 0), -2);
        Checks.is("behind the last DAY, a sheet of one", x.sheet(2, 4, 2, 0), 1);
        draftIs("behind the last DAY", x, 2, NONE, NONE, NONE);
    }

    private static void putOthers() {
        Checks.part("10: -3: others");
        NotWhereYesterday x = Checks.wall(2, 3);
        for (int post : new int[] {-1, 3, 9, 10, LOW, HIGH}) {
            Checks.is("post " + post, x.put(post, 0), -3);
            Checks.is("nobody at post " + post, x.put(post, NONE), -3);
        }
        for (int one : new int[] {-2, 2, 9, 10, LOW, HIGH}) {
            Checks.is("one " + one, x.put(0, one), -3);
        }
        draftIs("nobody is there", x, NONE, NONE, NONE);
    }

    private static void putOthersAheadOfAnotherPost() {
        Checks.part("10: -3 of one who is at a POST, to none");
        NotWhereYesterday x = Checks.wall(1, 1);
        x.put(0, 0);
        Checks.is("behind the last", x.put(1, 0), -3);
        Checks.is("ahead of the first", x.put(-1, 0), -3);
    }

    private static void sheetOfAllNumbersOfEntries() {
        Checks.part("11: n entries f, f + step, .. (0 .. 10)");
        for (int kind = 0; kind <= 2; kind++) {
            NotWhereYesterday x = Checks.wall(10, 10);
            for (int n = 0; n <= 10; n++) {
                x.sheet(2, 10, 9, -1);
                Checks.is("of kind " + kind, x.sheet(kind, n, 0, 1), n);
                for (int p = 0; p < 10; p++) {
                    Checks.is("post " + p, x.who(0, p), p < n ? p : NONE);
                }
            }
            Checks.is("by -1", x.sheet(kind, 10, 9, -1), 10);
            draftIs("by -1", x, 9, 8, 7, 6, 5, 4, 3, 2, 1, 0);
        }
    }

    private static void sheetOfMorePostsOrFewer() {
        Checks.part("11: POST by POST (POSTS behind it NONE)");
        NotWhereYesterday x = Checks.wall(10, 3);
        x.fill();
        Checks.is("fewer entries", x.sheet(2, 2, 5, 1), 2);
        draftIs("fewer entries", x, 5, 6, NONE);
        Checks.is("as many", x.sheet(2, 3, 5, 1), 3);
        draftIs("as many", x, 5, 6, 7);
        Checks.is("more entries than posts", x.sheet(2, 10, 0, 1), 3);
        draftIs("more entries than posts", x, 0, 1, 2);
        x.post(NONE, false, 1, 0);
        Checks.is("a post told then has nobody", x.who(0, 3), NONE);
        Checks.is("of no posts", new NotWhereYesterday().sheet(2, 10, 0, 1), 0);
    }

    private static void sheetOfBytes() {
        Checks.part("11: bytes (kind 0): the lowest bits, with their sign");
        NotWhereYesterday x = Checks.wall(10, 2);
        Checks.is("256 is 0, 257 is 1", x.sheet(0, 2, 256, 1), 2);
        draftIs("256 is 0, 257 is 1", x, 0, 1);
        Checks.is("255 is -1, 256 is 0", x.sheet(0, 2, 255, 1), 1);
        draftIs("255 is -1, 256 is 0", x, NONE, 0);
        Checks.is("127, 128 is -128", x.sheet(0, 2, 127, 1), 0);
        Checks.is("-256 is 0, -247 is 9", x.sheet(0, 2, -256, 9), 2);
        draftIs("-256 is 0, -247 is 9", x, 0, 9);
        Checks.is("-257 is -1", x.sheet(0, 1, -257, 0), 0);
        Checks.is("LOW is 0", x.sheet(0, 1, LOW, 0), 1);
        Checks.is("HIGH is -1", x.sheet(0, 1, HIGH, 0), 0);
        Checks.is("HIGH + 3 is 2", x.sheet(0, 2, HIGH, 3), 1);
        draftIs("HIGH + 3 is 2", x, NONE, 2);
    }

    private static void sheetOfShorts() {
        Checks.part("11: shorts (1): the lowest bits, with their sign");
        NotWhereYesterday x = Checks.wall(10, 2);
        Checks.is("65536 is 0, 65537 is 1", x.sheet(1, 2, 65536, 1), 2);
        draftIs("65536 is 0, 65537 is 1", x, 0, 1);
        Checks.is("65535 is -1, 65536 is 0", x.sheet(1, 2, 65535, 1), 1);
        draftIs("65535 is -1, 65536 is 0", x, NONE, 0);
        Checks.is("32767, 32768 is -32768", x.sheet(1, 2, 32767, 1), 0);
        Checks.is("256 is 256", x.sheet(1, 1, 256, 0), 0);
        Checks.is("-65536 is 0, -65527 is 9", x.sheet(1, 2, -65536, 9), 2);
        draftIs("-65536 is 0, -65527 is 9", x, 0, 9);
        Checks.is("LOW is 0", x.sheet(1, 1, LOW, 0), 1);
        Checks.is("HIGH is -1", x.sheet(1, 1, HIGH, 0), 0);
    }

    private static void sheetOfInts() {
        Checks.part("11: ints (2)");
        NotWhereYesterday x = Checks.wall(10, 3);
        for (int f : new int[] {256, 65536, LOW, HIGH, -1, 10}) {
            Checks.is("an entry of " + f, x.sheet(2, 1, f, 0), 0);
        }
        Checks.is("they go round", x.sheet(2, 3, HIGH, LOW + 3), 1);
        draftIs("they go round", x, NONE, 2, NONE);
        Checks.is("their steps go round", x.sheet(2, 3, 1, LOW), 1);
        draftIs("their steps go round", x, 1, NONE, NONE);
        Checks.is("two steps of half the way and one", x.sheet(2, 3, 1, LOW + 1), 2);
        draftIs("two steps of half the way and one", x, 1, NONE, 3);
    }

    private static void sheetOfNoneOfPeople() {
        Checks.part("11: an entry that is none of PEOPLE: NONE");
        for (int kind = 0; kind <= 2; kind++) {
            NotWhereYesterday x = Checks.wall(3, 6);
            Checks.is("-1 0 1 2 3 4", x.sheet(kind, 6, -1, 1), 3);
            draftIs("-1 0 1 2 3 4", x, NONE, 0, 1, 2, NONE, NONE);
            Checks.is("3 2 1 0 -1 -2", x.sheet(kind, 6, 3, -1), 3);
            draftIs("3 2 1 0 -1 -2", x, NONE, 2, 1, 0, NONE, NONE);
        }
        NotWhereYesterday y = Checks.wall(0, 2);
        Checks.is("of nobody", y.sheet(2, 2, 0, 1), 0);
    }

    private static void sheetOfOneTwice() {
        Checks.part("11: one who is at a POST ahead: NONE");
        NotWhereYesterday x = Checks.wall(3, 4);
        Checks.is("2 2 2 2", x.sheet(2, 4, 2, 0), 1);
        draftIs("2 2 2 2", x, 2, NONE, NONE, NONE);
        Checks.is("0 128 0 128", x.sheet(0, 4, 0, 128), 1);
        draftIs("0 128 0 128", x, 0, NONE, NONE, NONE);
        Checks.is("who was there ahead of the sheet is not", x.sheet(2, 2, 1, -1), 2);
        draftIs("who was there ahead of the sheet is not", x, 1, 0, NONE, NONE);
    }

    private static void sheetMissing() {
        Checks.part("11: a missing one (3): all NONE");
        NotWhereYesterday x = Checks.wall(10, 10);
        for (int n : new int[] {10, 1, 0, -1, -11, LOW}) {
            x.fill();
            Checks.is("of " + n, x.sheet(3, n, 0, 1), 0);
            Checks.is("filled", x.count(5), 0);
        }
    }

    private static void sheetBelow0() {
        Checks.part("11: -2: n below 0 (of kinds 0 .. 2; nothing changes)");
        NotWhereYesterday x = Checks.wall(2, 2);
        x.put(0, 1);
        for (int kind = 0; kind <= 2; kind++) {
            Checks.is("-1", x.sheet(kind, -1, 0, 1), -2);
            Checks.is("LOW", x.sheet(kind, LOW, 0, 1), -2);
            draftIs("nothing changes", x, 1, NONE);
        }
        Checks.is("0 is not below", x.sheet(0, 0, 0, 1), 0);
        draftIs("it is empty", x, NONE, NONE);
    }

    private static void sheetOthers() {
        Checks.part("11: NONE: another kind, n above 10 (of kind 3, too; these first)");
        NotWhereYesterday x = Checks.wall(2, 2);
        x.put(0, 1);
        for (int kind = 0; kind <= 3; kind++) {
            Checks.is("11", x.sheet(kind, 11, 0, 1), NONE);
            Checks.is("HIGH", x.sheet(kind, HIGH, 0, 1), NONE);
        }
        for (int kind : new int[] {-1, 4, LOW, HIGH}) {
            for (int n : new int[] {LOW, -1, 0, 10, 11}) {
                Checks.is("kind " + kind + " of " + n, x.sheet(kind, n, 0, 1), NONE);
            }
        }
        draftIs("nothing changes", x, 1, NONE);
    }

    private static void goodOfNoPosts() {
        Checks.part("12: of no POSTS");
        NotWhereYesterday x = Checks.wall(2, 0);
        Checks.is("good", x.good(), 1);
        Checks.rowIs("good", x, 0);
    }

    private static void goodOfTen() {
        Checks.part("12: of each POST why not, of ten");
        NotWhereYesterday x = Checks.wall(10, 10);
        Checks.told(x, "w1;b1");
        x.sheet(2, 10, 0, 1);
        x.day();
        x.sheet(2, 10, 9, -1);
        Checks.is("all are beside the same", x.good(), 0);
        Checks.rowIs("all are beside the same", x, 100, 0, 5, 5, 5, 5, 5, 5, 5, 5, 5);
        x.sheet(2, 10, 0, 1);
        Checks.is("all are where they were", x.good(), 0);
        Checks.rowIs("all are where they were", x, 100, 2, 2, 2, 2, 2, 2, 2, 2, 2, 2);
    }

    private static void goodFirstOfTheReasons() {
        Checks.part("12: 1 away, 2 WHERE, 3 from where it is not to go, 4 one can't (the first of these), 5");
        NotWhereYesterday x = new NotWhereYesterday();
        x.person(1, 9);
        x.person(0, 9);
        x.post(0, false, 1, 0);
        x.post(0, false, 1, 0);
        Checks.dayOf(x, 0, 1);
        Checks.draft(x, 0, 1);
        String[] rules = {"a1,1-1;w1;x1-1;b1", "w1;x1-1;b1", "w1;f1;x1-1;b1", "w1;f1;b1", "w1;f1"};
        int[] why = {1, 2, 3, 4, 4};
        for (int i = 0; i < rules.length; i++) {
            Checks.told(x, "f0;" + rules[i]);
            Checks.is(rules[i], x.good(), 0);
            Checks.rowIs(rules[i], x, 20, 0, why[i]);
        }
        Checks.draft(x, 1, 0);
        Checks.told(x, "b1");
        Checks.is("one can't, the other may not be beside it", x.good(), 0);
        Checks.rowIs("one can't, the other may not be beside it", x, 20, 4, 5);
    }

    private static void goodNeighboursAtThePostAhead() {
        Checks.part("12: 5 with the one at the POST ahead no NEIGHBOURS");
        NotWhereYesterday x = Checks.wall(3, 4);
        Checks.told(x, "b1");
        Checks.dayOf(x, 0, 1);
        Checks.draft(x, 1, 0, NONE, NONE);
        Checks.is("at the first two", x.good(), 0);
        Checks.rowIs("at the first two", x, 20, 0, 5, 0, 0);
        Checks.draft(x, NONE, NONE, 1, 0);
        Checks.is("at the last two", x.good(), 0);
        Checks.rowIs("at the last two", x, 20, 0, 0, 0, 5);
        Checks.draft(x, 0, NONE, 1, NONE);
        Checks.is("one between", x.good(), 1);
        Checks.draft(x, 0, NONE, NONE, 1);
        Checks.is("at the ends", x.good(), 1);
        Checks.draft(x, 0, 2, 1, NONE);
        Checks.is("another one between", x.good(), 1);
    }

    private static void dayGoodOrNot() {
        Checks.part("13: THE DRAFT goes by as a DAY, GOOD or not: its number");
        NotWhereYesterday x = Checks.wall(1, 1);
        Checks.told(x, "w9;a0,1-1");
        Checks.is("an empty one", x.day(), 0);
        x.put(0, 0);
        Checks.is("one who is away", x.day(), 1);
        x.put(0, 0);
        Checks.is("one who was there", x.day(), 2);
        Checks.is("works all the same", x.works(0), 2);
        Checks.is("of nobody and no posts", new NotWhereYesterday().day(), 0);
    }

    private static void dayRefusesThe61st() {
        Checks.part("13: Refused: 60");
        NotWhereYesterday x = Checks.wall(1, 1);
        for (int day = 0; day < 60; day++) {
            Checks.is("its number", x.day(), day);
        }
        x.put(0, 0);
        Checks.is("the 61st", x.day(), NONE);
        Checks.is("the 61st", x.day(), NONE);
        Checks.is("no work", x.works(0), 0);
        Checks.is("the draft stays", x.who(60, 0), 0);
        Checks.is("sixty", x.count(2), 60);
    }

    private static void whoTodayInTheDraft() {
        Checks.part("14: Who was at a POST on a DAY (TODAY: in THE DRAFT). NONE: nobody");
        NotWhereYesterday x = Checks.wall(2, 2);
        Checks.is("nobody", x.who(0, 1), NONE);
        x.put(1, 1);
        Checks.is("in the draft", x.who(0, 1), 1);
        x.day();
        Checks.is("on day 0", x.who(0, 1), 1);
        Checks.is("in the next draft", x.who(1, 1), NONE);
        x.go(0, 58);
        Checks.dayOf(x, 1, 0);
        x.put(0, 0);
        Checks.is("on day 59", x.who(59, 0), 1);
        Checks.is("in the draft behind it", x.who(60, 0), 0);
    }

    private static void whoNoneSuch() {
        Checks.part("14: -2: none such");
        NotWhereYesterday x = Checks.wall(2, 2);
        x.day();
        for (int day : new int[] {-1, 2, 60, 61, LOW, HIGH}) {
            Checks.is("day " + day, x.who(day, 0), -2);
        }
        for (int post : new int[] {-1, 2, 9, 10, LOW, HIGH}) {
            Checks.is("post " + post, x.who(0, post), -2);
            Checks.is("post " + post + " today", x.who(1, post), -2);
        }
        x.go(0, 59);
        Checks.is("day 61", x.who(61, 0), -2);
    }

    private static NotWhereYesterday judged() {
        NotWhereYesterday x = Checks.wall(2, 3);
        Checks.told(x, "w1");
        Checks.dayOf(x, 0, 1);
        Checks.dayOf(x, 1, NONE, 0);
        Checks.dayOf(x, NONE, 1, 0);
        Checks.dayOf(x, 0);
        Checks.dayOf(x, 0);
        return x;
    }

    private static void judgeFromOneOn() {
        Checks.part("15: The first DAY from one on (that went by) whose FILLING was not GOOD");
        NotWhereYesterday x = judged();
        int[] due = {2, 2, 2, 4, 4};
        for (int from = 0; from < 5; from++) {
            Checks.is("from " + from, x.judge(from), due[from]);
        }
        x.put(0, 0);
        Checks.is("today has not gone by", x.judge(5), NONE);
        Checks.told(x, "a1,0-0");
        Checks.is("day 0", x.judge(0), 0);
        Checks.rowIs("day 0", x, 1, 1);
        Checks.is("from behind it", x.judge(1), -2);
    }

    private static void judgeTheFirstSuchPost() {
        Checks.part("15: the ROW: the first such POST, why (as good())");
        NotWhereYesterday x = judged();
        Checks.is("day 2", x.judge(0), 2);
        Checks.rowIs("day 2", x, 2, 2);
        Checks.told(x, "w2;b9");
        Checks.is("day 2", x.judge(0), 2);
        Checks.rowIs("two of them, the first", x, 1, 2);
        Checks.told(x, "x2-0");
        Checks.is("day 3", x.judge(0), 3);
        Checks.rowIs("day 3", x, 0, 3);
        Checks.told(x, "b9");
        Checks.is("day 2", x.judge(0), 2);
        Checks.rowIs("day 2", x, 2, 5);
    }

    private static void judgeMustBeFilled() {
        Checks.part("15: or has a POST that MUST be filled and was not (6)");
        NotWhereYesterday x = Checks.wall(2, 1);
        Checks.dayOf(x, 0);
        Checks.dayOf(x);
        Checks.is("which need not", x.judge(0), -2);
        x.post(NONE, true, 1, 0);
        Checks.is("which was not there yet", x.judge(0), 0);
        Checks.rowIs("which was not there yet", x, 1, 6);
        Checks.dayOf(x, 0, 1);
        Checks.is("filled", x.judge(2), -2);
        Checks.dayOf(x, 1);
        Checks.told(x, "a1,3-3");
        Checks.is("the first of two", x.judge(2), 3);
        Checks.rowIs("the first of two", x, 0, 1);
        Checks.told(x, "");
        Checks.is("not filled", x.judge(2), 3);
        Checks.rowIs("not filled", x, 1, 6);
    }

    private static void judgeByCraftsAsTheyAreNow() {
        Checks.part("15: by CRAFTS as they are now");
        NotWhereYesterday x = new NotWhereYesterday();
        x.person(0, 2);
        x.post(0, false, 1, 0);
        Checks.dayOf(x, 0);
        Checks.is("it can't", x.judge(0), 0);
        Checks.rowIs("it can't", x, 0, 4);
        Checks.dayOf(x, 0);
        Checks.is("it can now", x.judge(0), -2);
    }

    private static void judgeNone() {
        Checks.part("15: -2: none");
        NotWhereYesterday x = Checks.wall(1, 1);
        x.go(0, 60);
        x.put(0, 0);
        x.works(0);
        Checks.is("of sixty", x.judge(0), -2);
        Checks.is("of the last", x.judge(59), -2);
        Checks.rowIs("the ROW stays", x, 0, 0);
        Checks.told(x, "a0,60-60");
        Checks.is("today is not asked", x.judge(0), -2);
        Checks.told(x, "a0,59-59");
        Checks.is("the last is", x.judge(0), 59);
        NotWhereYesterday y = new NotWhereYesterday();
        y.day();
        Checks.is("of no posts", y.judge(0), -2);
        NotWhereYesterday z = Checks.wall(10, 10);
        z.go(0, 2);
        Checks.is("of ten posts", z.judge(0), -2);
    }

    private static void judgeNoSuchDay() {
        Checks.part("15: NONE: no such DAY (from TODAY on)");
        NotWhereYesterday x = Checks.wall(1, 1);
        Checks.is("none went by", x.judge(0), NONE);
        Checks.told(x, "a0,0-99");
        x.go(0, 2);
        for (int from : new int[] {-1, 2, 3, 60, LOW, HIGH}) {
            Checks.is("from " + from, x.judge(from), NONE);
        }
        Checks.is("the last", x.judge(1), 1);
    }

    private static void brokenOnNoDays() {
        Checks.part("16: on all DAYS: none went by");
        NotWhereYesterday x = Checks.wall(2, 2);
        Checks.told(x, "a0,0-0;a1,0-0");
        x.fill();
        Checks.is("the sum", x.broken(), 0);
        Checks.rowIs("of each how often", x, 0, 0, 0, 0);
    }

    private static void brokenNotByTheDraft() {
        Checks.part("16: on all DAYS: not in THE DRAFT");
        NotWhereYesterday x = Checks.wall(2, 2);
        Checks.told(x, "w1;b1");
        Checks.dayOf(x, 0, 1);
        Checks.draft(x, 0, 1);
        Checks.is("today", x.broken(), 0);
        x.day();
        Checks.is("yesterday", x.broken(), 3);
        Checks.rowIs("yesterday", x, 0, 2, 0, 1);
    }

    private static void brokenFirstReasonAlone() {
        Checks.part("16: by PEOPLE at POSTS (reasons 1, 2, 3, as they are asked first)");
        NotWhereYesterday x = Checks.wall(1, 1);
        Checks.dayOf(x, 0);
        Checks.dayOf(x, 0);
        String[] rules = {"a0,1-1;w1;x0-0", "w1;x0-0", "x0-0", "w1;f0;x0-0", "w1;f0"};
        int[][] due = {{1, 0, 0, 0}, {0, 1, 0, 0}, {0, 0, 1, 0}, {0, 0, 1, 0}, {0, 0, 0, 0}};
        for (int i = 0; i < rules.length; i++) {
            Checks.told(x, rules[i]);
            Checks.is(rules[i], x.broken(), i < 4 ? 1 : 0);
            Checks.rowIs(rules[i], x, due[i]);
        }
        NotWhereYesterday y = new NotWhereYesterday();
        y.person(0, 9);
        y.post(0, true, 1, 0);
        y.day();
        y.day();
        Checks.told(y, "w1;b1;a0,0-1");
        Checks.is("who is not there does not break it", y.broken(), 0);
        Checks.dayOf(y, 0);
        Checks.is("nor who can't", y.broken(), 0);
    }

    private static void brokenOftenOnAllDays() {
        Checks.part("16: how often, the sum: ten on sixty days");
        NotWhereYesterday x = Checks.wall(10, 10);
        Checks.is("go", x.go(2, 60), 0);
        Checks.told(x, "a0,0-99;a1,0-99;a2,0-99;a3,0-99;a4,0-99;a5,0-99;a6,0-99");
        Checks.is("seven away", x.broken(), 420);
        Checks.told(x, "b9");
        // all pairs meet in each five days, so that from DAY 5 on each pair of a DAY met within nine days
        Checks.is("neighbours alone", x.broken(), 55 * 9);
        Checks.rowIs("neighbours alone", x, 0, 0, 0, 55 * 9);
        Checks.told(x, "w9");
        Checks.is("each tenth day", x.broken(), 0);
        Checks.rowIs("each tenth day", x, 0, 0, 0, 0);
    }

    private static void worksAtFirst() {
        Checks.part("17: WORKS done; the ROW: its parts, who did it the last time (NONE)");
        NotWhereYesterday x = Checks.wall(10, 10);
        for (int p = 0; p < 10; p++) {
            Checks.is("at first", x.works(p), 0);
            Checks.rowIs("at first", x, 0, NONE);
        }
        x.sheet(2, 10, 9, -1);
        Checks.is("a draft is no work", x.works(0), 0);
        x.day();
        for (int p = 0; p < 10; p++) {
            Checks.is("one day of one", x.works(p), 1);
            Checks.rowIs("one day of one", x, 0, 9 - p);
        }
    }

    private static void worksPartsAtTheirEdge() {
        Checks.part("17: its parts, up to the last one");
        NotWhereYesterday x = Checks.wall(2, 0);
        x.post(NONE, false, 9, 9);
        for (int day = 0; day < 60; day++) {
            x.put(0, day % 2);
            x.day();
            Checks.is("not done", x.works(0), 0);
            Checks.is("ten and ones", x.row(0), 10 + day);
            Checks.is("who did it", x.row(1), day % 2);
        }
        NotWhereYesterday y = Checks.wall(1, 1);
        y.go(0, 60);
        Checks.is("one each day", y.works(0), 60);
        Checks.rowIs("one each day", y, 0, 0);
    }

    private static void worksOfNoneSuch() {
        Checks.part("17: NONE: none such");
        NotWhereYesterday x = Checks.wall(1, 3);
        for (int post : new int[] {-1, 3, 9, 10, LOW, HIGH}) {
            Checks.is("post " + post, x.works(post), NONE);
        }
        Checks.is("the last", x.works(2), 0);
    }
}
