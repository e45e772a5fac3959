/** Promises 10 to 17: today, days that go by. */
public final class DaysTest {
    private static final int NONE = NotWhereYesterday.NONE;

    public static void main(String[] args) {
        put();
        sheetOfInts();
        sheetOfBytesAndShorts();
        sheetRefused();
        good();
        goodFirstReason();
        goodNeighbours();
        day();
        who();
        judge();
        judgeByCraftsAsTheyAre();
        broken();
        works();
        worksDoneAtOnce();
        Checks.end();
    }

    private static void put() {
        Checks.part("promise 10");
        NotWhereYesterday x = Checks.wall(2, 2);
        Checks.is("empty", x.put(0, 1), NONE);
        Checks.is("at another post", x.put(1, 1), -2);
        Checks.is("no such post, of one who is at another", x.put(2, 1), -3);
        Checks.is("no such post, of one who is at another", x.put(-1, 1), -3);
        Checks.is("nobody is there", x.who(0, 1), NONE);
        Checks.is("where it is", x.put(0, 1), 1);
        Checks.is("another one", x.put(0, 0), 1);
        Checks.is("nobody", x.put(0, NONE), 0);
        Checks.is("nobody to nobody", x.put(0, NONE), NONE);
        Checks.is("no such post", x.put(2, 0), -3);
        Checks.is("no such post", x.put(-1, NONE), -3);
        Checks.is("none such", x.put(0, 2), -3);
        Checks.is("none such", x.put(0, -2), -3);
        Checks.is("none is filled", x.count(5), 0);
    }

    private static void draftIs(String what, NotWhereYesterday x, int... people) {
        for (int p = 0; p < people.length; p++) {
            Checks.is(what + ": post " + p, x.who(x.count(2), p), people[p]);
        }
    }

    private static void sheetOfInts() {
        Checks.part("promise 11, ints");
        NotWhereYesterday x = Checks.wall(4, 4);
        Checks.is("0 1 2 3", x.sheet(2, 4, 0, 1), 4);
        draftIs("0 1 2 3", x, 0, 1, 2, 3);
        Checks.is("two entries", x.sheet(2, 2, 3, -1), 2);
        draftIs("two entries", x, 3, 2, NONE, NONE);
        Checks.is("the same one", x.sheet(2, 4, 1, 0), 1);
        draftIs("the same one", x, 1, NONE, NONE, NONE);
        Checks.is("by two", x.sheet(2, 10, -1, 2), 2);
        draftIs("by two", x, NONE, 1, 3, NONE);
        Checks.is("no entries", x.sheet(2, 0, 1, 1), 0);
        draftIs("no entries", x, NONE, NONE, NONE, NONE);
        Checks.is("ints go round", x.sheet(2, 4, Integer.MAX_VALUE, Integer.MIN_VALUE + 2), 1);
        draftIs("ints go round", x, NONE, 1, NONE, NONE);
        Checks.is("a missing one", x.sheet(3, 4, 0, 1), 0);
        draftIs("a missing one", x, NONE, NONE, NONE, NONE);
    }

    private static void sheetOfBytesAndShorts() {
        Checks.part("promise 11, bytes and shorts");
        NotWhereYesterday x = Checks.wall(4, 4);
        Checks.is("bytes", x.sheet(0, 4, 256, 257), 4);
        draftIs("bytes", x, 0, 1, 2, 3);
        Checks.is("shorts of the same", x.sheet(1, 4, 256, 257), 0);
        Checks.is("shorts", x.sheet(1, 4, 3 * 65536 + 3, 65535), 4);
        draftIs("shorts", x, 3, 2, 1, 0);
        Checks.is("ints of the same", x.sheet(2, 4, 3 * 65536 + 3, 65535), 0);
        Checks.is("bytes with their sign", x.sheet(0, 4, 255, 1), 3);
        draftIs("bytes with their sign", x, NONE, 0, 1, 2);
        Checks.is("a byte below 0", x.sheet(0, 1, 128, 0), 0);
    }

    private static void sheetRefused() {
        Checks.part("promise 11, refused");
        NotWhereYesterday x = Checks.wall(2, 2);
        x.put(1, 0);
        for (int kind = 0; kind < 3; kind++) {
            Checks.is("n below 0", x.sheet(kind, -1, 0, 1), -2);
            Checks.is("n above 10", x.sheet(kind, 11, 0, 1), NONE);
        }
        Checks.is("n above 10 of a missing one", x.sheet(3, 11, 0, 1), NONE);
        Checks.is("another kind", x.sheet(4, 2, 0, 1), NONE);
        Checks.is("another kind, n below 0", x.sheet(4, -1, 0, 1), NONE);
        Checks.is("another kind", x.sheet(-1, -1, 0, 1), NONE);
        draftIs("nothing changed", x, NONE, 0);
        Checks.is("a missing one, n below 0", x.sheet(3, -1, 0, 1), 0);
        draftIs("a missing one", x, NONE, NONE);
    }

    private static void good() {
        Checks.part("promise 12");
        NotWhereYesterday x = new NotWhereYesterday();
        x.person(0, 1);
        x.person(1, 1);
        x.post(0, true, 1, 0);
        x.post(NONE, false, 1, 0);
        Checks.is("empty", x.good(), 1);
        Checks.rowIs("empty", x, 0, 0, 0);
        x.put(0, 1);
        Checks.is("filled", x.good(), 1);
        Checks.rowIs("filled", x, 1010, 0, 0);
        x.put(1, 0);
        Checks.is("both", x.good(), 1);
        Checks.rowIs("both", x, 1020, 0, 0);
        Checks.draft(x, 0, 1);
        Checks.is("one can't", x.good(), 0);
        Checks.rowIs("one can't", x, 1020, 4, 0);
    }

    private static void goodFirstReason() {
        Checks.part("promise 12, the first reason");
        NotWhereYesterday x = new NotWhereYesterday();
        x.person(0, 9);
        x.post(0, false, 1, 0);
        x.day();
        x.put(0, 0);
        x.day();
        x.put(0, 0);
        String[] rules = {"a0,2-2;w1;x0-0", "w1;x0-0", "x0-0", "w1;f0", "w1;f0;x0-0", ""};
        int[] due = {1, 2, 3, 4, 3, 4};
        for (int i = 0; i < rules.length; i++) {
            Checks.told(x, rules[i]);
            Checks.is(rules[i], x.good(), 0);
            Checks.rowIs(rules[i], x, 10, due[i]);
        }
    }

    private static void goodNeighbours() {
        Checks.part("promise 12, neighbours");
        NotWhereYesterday x = Checks.wall(3, 3);
        Checks.told(x, "b1");
        Checks.dayOf(x, 0, 1, 2);
        Checks.draft(x, 1, 0, 2);
        Checks.is("0 and 1", x.good(), 0);
        Checks.rowIs("0 and 1", x, 30, 0, 5, 0);
        Checks.draft(x, 2, 0, 1);
        Checks.is("0 and 1 behind", x.good(), 0);
        Checks.rowIs("0 and 1 behind", x, 30, 0, 0, 5);
        Checks.draft(x, 0, NONE, 1);
        Checks.is("one post between", x.good(), 1);
        Checks.told(x, "b1;w1");
        Checks.draft(x, NONE, 2, 1);
        Checks.is("they may not", x.good(), 0);
        Checks.rowIs("they may not", x, 20, 0, 0, 5);
        Checks.draft(x, NONE, 1, 2);
        Checks.is("where they were", x.good(), 0);
        Checks.rowIs("where they were ahead of 5", x, 20, 0, 2, 2);
    }

    private static void day() {
        Checks.part("promise 13");
        NotWhereYesterday x = Checks.wall(2, 1);
        Checks.told(x, "w1");
        for (int d = 0; d < 60; d++) {
            x.put(0, 0);
            Checks.is("good or not", x.day(), d);
            Checks.is("today", x.count(2), d + 1);
            Checks.is("the draft is empty", x.who(d + 1, 0), NONE);
        }
        x.put(0, 1);
        Checks.is("the 61st", x.day(), NONE);
        Checks.is("today", x.count(2), 60);
        Checks.is("the draft stays", x.who(60, 0), 1);
        Checks.is("works", x.works(0), 60);
    }

    private static void who() {
        Checks.part("promise 14");
        NotWhereYesterday x = Checks.wall(2, 2);
        Checks.dayOf(x, 1, NONE);
        x.put(1, 0);
        Checks.is("on day 0", x.who(0, 0), 1);
        Checks.is("nobody", x.who(0, 1), NONE);
        Checks.is("today", x.who(1, 1), 0);
        Checks.is("nobody today", x.who(1, 0), NONE);
        Checks.is("behind today", x.who(2, 0), -2);
        Checks.is("ahead of day 0", x.who(-1, 0), -2);
        Checks.is("no such post", x.who(0, 2), -2);
        Checks.is("no such post", x.who(0, -1), -2);
    }

    private static void judge() {
        Checks.part("promise 15");
        NotWhereYesterday x = new NotWhereYesterday();
        x.person(63, 1);
        x.person(63, 1);
        x.post(NONE, false, 1, 0);
        x.post(NONE, true, 1, 0);
        Checks.is("no day", x.judge(0), NONE);
        Checks.dayOf(x, 0, 1);
        Checks.is("none", x.judge(0), -2);
        Checks.dayOf(x, 1, 0);
        Checks.dayOf(x, 0, NONE);
        Checks.dayOf(x, 0, 1);
        x.best();
        Checks.is("not filled", x.judge(0), 2);
        Checks.rowIs("not filled", x, 1, 6);
        Checks.is("from it on", x.judge(2), 2);
        Checks.is("behind it", x.judge(3), -2);
        Checks.rowIs("the ROW stays", x, 1, 6);
        Checks.is("today", x.judge(4), NONE);
        Checks.is("below 0", x.judge(-1), NONE);
        Checks.told(x, "w1");
        Checks.is("where it was", x.judge(3), 3);
        Checks.rowIs("where it was", x, 0, 2);
        Checks.told(x, "b1");
        Checks.is("beside whom it was", x.judge(0), 1);
        Checks.rowIs("beside whom it was", x, 1, 5);
        Checks.told(x, "x0-1");
        Checks.is("from the one to the other", x.judge(0), 1);
        Checks.rowIs("from the one to the other", x, 1, 3);
        Checks.told(x, "a0,0-0;a1,3-3");
        Checks.is("away", x.judge(0), 0);
        Checks.rowIs("away", x, 0, 1);
        Checks.is("away later, unfilled ahead of it", x.judge(1), 2);
        Checks.is("away later", x.judge(3), 3);
        Checks.rowIs("away later", x, 1, 1);
        x.post(NONE, true, 1, 0);
        Checks.told(x, "");
        Checks.is("a post told later", x.judge(0), 0);
        Checks.rowIs("a post told later", x, 2, 6);
    }

    private static void judgeByCraftsAsTheyAre() {
        Checks.part("promise 15, crafts");
        NotWhereYesterday x = new NotWhereYesterday();
        x.person(0, 2);
        x.post(3, false, 1, 0);
        Checks.dayOf(x, 0);
        Checks.is("it can't", x.judge(0), 0);
        Checks.rowIs("it can't", x, 0, 4);
        Checks.dayOf(x, 0);
        Checks.is("it can now", x.judge(0), -2);
    }

    private static void broken() {
        Checks.part("promise 16");
        NotWhereYesterday x = Checks.wall(3, 3);
        Checks.is("no days", x.broken(), 0);
        Checks.rowIs("no days", x, 0, 0, 0, 0);
        Checks.dayOf(x, 0, 1, 2);
        Checks.dayOf(x, 0, 1, 2);
        Checks.dayOf(x, 1, 0, 2);
        Checks.told(x, "w1;b1;x2-2;x1-0;a0,1-1");
        // day 1: 0 is away, 1 and 2 are where they were, both pairs were neighbours
        // day 2: 1 comes from 1, 2 is where it was, 0 and 1 were neighbours
        Checks.is("three days", x.broken(), 8);
        Checks.rowIs("three days", x, 1, 3, 1, 3);
        Checks.told(x, "x2-2;x1-0");
        Checks.is("by x alone", x.broken(), 3);
        Checks.rowIs("by x alone", x, 0, 0, 3, 0);
        NotWhereYesterday y = new NotWhereYesterday();
        y.person(0, 9);
        y.post(0, true, 1, 0);
        y.day();
        Checks.dayOf(y, 0);
        Checks.is("neither must nor can is THE RULE", y.broken(), 0);
        // on some day 0 and 1 are at posts where they may not be, and are neighbours who may not
        NotWhereYesterday z = Checks.wall(2, 2);
        Checks.dayOf(z, 0, 1);
        Checks.dayOf(z, 0, 1);
        Checks.told(z, "w9;b9");
        Checks.is("each by itself", z.broken(), 3);
        Checks.rowIs("each by itself", z, 0, 2, 0, 1);
    }

    private static void works() {
        Checks.part("promise 17");
        NotWhereYesterday x = new NotWhereYesterday();
        x.person(63, 1);
        x.person(63, 1);
        x.post(NONE, false, 3, 4);
        Checks.is("at first", x.works(0), 0);
        Checks.rowIs("at first", x, 0, NONE);
        Checks.dayOf(x, 0);
        x.works(0);
        Checks.rowIs("the first time nothing is lost", x, 10, 0);
        Checks.dayOf(x, 1);
        x.works(0);
        Checks.rowIs("handed on", x, 16, 1);
        Checks.dayOf(x);
        Checks.dayOf(x, 1);
        Checks.is("the same as the last time", x.works(0), 0);
        Checks.rowIs("the same as the last time", x, 26, 1);
        Checks.dayOf(x, 0);
        Checks.is("done", x.works(0), 1);
        Checks.rowIs("done", x, 0, 0);
        Checks.dayOf(x, 1);
        x.works(0);
        Checks.rowIs("the next work is handed on, too", x, 6, 1);
        Checks.is("no such post", x.works(1), NONE);
        Checks.is("no such post", x.works(-1), NONE);
        Checks.rowIs("the ROW stays", x, 6, 1);
    }

    private static void worksDoneAtOnce() {
        Checks.part("promise 17, at the edge");
        NotWhereYesterday x = new NotWhereYesterday();
        x.person(63, 1);
        x.person(63, 1);
        x.post(NONE, false, 2, 10);
        Checks.dayOf(x, 0);
        Checks.dayOf(x, 1);
        x.works(0);
        Checks.rowIs("all is lost", x, 10, 1);
        Checks.dayOf(x, 1);
        Checks.is("from 20 on", x.works(0), 1);
        Checks.rowIs("from 20 on", x, 0, 1);
    }
}
