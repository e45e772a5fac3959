/** Promises 45 to 48: kept. */
public final class KeptTest {
    private static final int NONE = NotWhereYesterday.NONE;

    public static void main(String[] args) {
        keepAndAgain();
        keepIsACopy();
        keepRefused();
        againRefused();
        count();
        row();
        Checks.end();
    }

    private static NotWhereYesterday learner() {
        NotWhereYesterday x = new NotWhereYesterday();
        x.person(0, 2);
        x.person(63, 1);
        x.post(0, false, 3, 5);
        x.post(NONE, false, 2, 5);
        Checks.dayOf(x, 0, 1);
        Checks.dayOf(x, 1, NONE);
        x.put(1, 0);
        return x;
    }

    private static void isAsLearner(NotWhereYesterday x) {
        Checks.is("days", x.count(2), 2);
        Checks.is("day 0", x.who(0, 0), 0);
        Checks.is("day 1", x.who(1, 0), 1);
        Checks.is("the draft", x.who(2, 1), 0);
        Checks.is("the draft", x.who(2, 0), NONE);
        Checks.is("behind it", x.who(3, 0), -2);
        Checks.is("works at 0", x.works(0), 0);
        Checks.rowIs("works at 0", x, 10, 1);
        Checks.is("works at 1", x.works(1), 0);
        Checks.rowIs("works at 1", x, 10, 1);
        Checks.is("crafts", x.crafts(0, NONE), 0);
        Checks.is("goes", x.crafts(0, 0), 1);
    }

    private static void changeAll(NotWhereYesterday x) {
        Checks.dayOf(x, 0, 1);
        Checks.dayOf(x, 0, 1);
        x.go(0, 9);
        x.put(0, 1);
    }

    private static void keepAndAgain() {
        Checks.part("promises 45 and 46");
        NotWhereYesterday x = learner();
        Checks.told(x, "w1");
        Checks.yes("keep(1)", x.keep(1));
        isAsLearner(x);
        changeAll(x);
        Checks.told(x, "w2;b1");
        Checks.tell(x, "w3");
        x.broken();
        int sum = x.row(0) + x.row(1);
        Checks.yes("again(1)", x.again(1));
        Checks.is("the ROW stays", x.row(0) + x.row(1), sum);
        Checks.is("THE RULE stays", x.count(3), 2);
        Checks.is("THE TEXT stays", x.count(7), 2);
        isAsLearner(x);
        changeAll(x);
        Checks.yes("again and again", x.again(1));
        isAsLearner(x);
        Checks.is("rows behind the draft are empty", x.day(), 2);
        Checks.is("the next draft", x.count(5), 0);
    }

    private static void keepIsACopy() {
        Checks.part("promise 45, a copy");
        NotWhereYesterday x = learner();
        x.keep(0);
        x.day();
        x.keep(2);
        changeAll(x);
        x.keep(1);
        Checks.yes("again(0)", x.again(0));
        isAsLearner(x);
        Checks.yes("again(2)", x.again(2));
        Checks.is("today", x.count(2), 3);
        Checks.yes("again(1)", x.again(1));
        Checks.is("today", x.count(2), 14);
        x.again(0);
        x.keep(1);
        x.day();
        Checks.yes("kept anew", x.again(1));
        isAsLearner(x);
    }

    private static void keepRefused() {
        Checks.part("promise 45, refused");
        NotWhereYesterday x = Checks.wall(1, 1);
        Checks.no("keep(3)", x.keep(3));
        Checks.no("keep(-1)", x.keep(-1));
        Checks.no("again(3)", x.again(3));
        Checks.no("again(-1)", x.again(-1));
    }

    private static void againRefused() {
        Checks.part("promise 46, refused");
        NotWhereYesterday x = Checks.wall(1, 1);
        x.day();
        for (int i = 0; i < 3; i++) {
            Checks.no("nothing kept", x.again(i));
        }
        Checks.is("today", x.count(2), 1);
        x.keep(0);
        x.person(64, 1);
        x.post(6, true, 1, 0);
        Checks.yes("refused ones were not told", x.again(0));
        x.person(0, 1);
        x.day();
        Checks.no("one of people more", x.again(0));
        Checks.is("today", x.count(2), 2);
        x.keep(0);
        x.post(NONE, true, 1, 0);
        Checks.no("a post more", x.again(0));
        x.keep(0);
        Checks.yes("kept anew", x.again(0));
        NotWhereYesterday y = new NotWhereYesterday();
        Checks.no("an empty one", y.again(0));
        y.keep(0);
        Checks.yes("an empty one", y.again(0));
    }

    private static void count() {
        Checks.part("promise 47");
        NotWhereYesterday x = Checks.wall(3, 2);
        Checks.told(x, "w4;b5");
        x.day();
        x.put(1, 2);
        x.broken();
        x.sign(0);
        int[] due = {3, 2, 1, 4, 5, 1, 4, 4};
        for (int what = 0; what < due.length; what++) {
            Checks.is("count(" + what + ")", x.count(what), due[what]);
        }
        Checks.is("count(7) reads no text", x.count(7), 4);
        Checks.is("count(8)", x.count(8), NONE);
        Checks.is("count(-1)", x.count(-1), NONE);
    }

    private static void row() {
        Checks.part("promise 48");
        NotWhereYesterday x = Checks.wall(2, 2);
        Checks.yes("an empty ROW", Checks.throwsNoSuch(x, 0));
        x.broken();
        Checks.is("row(3)", x.row(3), 0);
        Checks.yes("row(4)", Checks.throwsNoSuch(x, 4));
        Checks.yes("row(-1)", Checks.throwsNoSuch(x, -1));
        Checks.yes("row(MAX)", Checks.throwsNoSuch(x, Integer.MAX_VALUE));
        Checks.yes("row(MIN)", Checks.throwsNoSuch(x, Integer.MIN_VALUE));
        x.best();
        Checks.rowIs("a shorter one", x, 0, 1);
        Checks.rowIs("it stays", x, 0, 1);
    }
}
