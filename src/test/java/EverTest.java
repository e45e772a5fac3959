/** Promises 28 to 36: other laws, for ever. */
public final class EverTest {
    private static final int NONE = NotWhereYesterday.NONE;

    public static void main(String[] args) {
        law();
        lawLeavesOutCrafts();
        price();
        written();
        ever();
        everWithoutAwayAndLearning();
        round();
        roundOfThree();
        lasts();
        lessons();
        lessonsLeast();
        most();
        mostByLossAndWhere();
        mostLooksAhead();
        fresh();
        many();
        Checks.end();
    }

    private static void law() {
        Checks.part("promise 28");
        NotWhereYesterday x = Checks.wall(2, 2);
        Checks.told(x, "w1;b1");
        Checks.dayOf(x, 0, 1);
        Checks.dayOf(x, 0, 1);
        Checks.dayOf(x, 1, 0);
        Checks.is("WHERE 0: by beside alone", x.law(0, 0), 2);
        Checks.rowIs("WHERE 0", x, 10);
        Checks.is("BESIDE 0: day 1", x.law(1, 0), 1);
        Checks.rowIs("BESIDE 0", x, 20);
        Checks.told(x, "");
        Checks.is("WHERE 2", x.law(0, 2), 1);
        Checks.rowIs("WHERE 2: nobody may be anywhere", x, 0);
        Checks.is("WHERE 1", x.law(0, 1), 1);
        Checks.rowIs("WHERE 1", x, 20);
        Checks.is("BESIDE 9", x.law(1, 9), 2);
        Checks.is("WHERE stays", x.count(3), 0);
        Checks.is("BESIDE stays", x.count(4), 0);
        Checks.is("another what", x.law(2, 0), NONE);
        Checks.is("another what", x.law(-1, 0), NONE);
        Checks.is("n 10", x.law(0, 10), NONE);
        Checks.is("n -1", x.law(1, -1), NONE);
        Checks.rowIs("the ROW stays", x, 10);
    }

    private static void lawLeavesOutCrafts() {
        Checks.part("promise 28, crafts");
        NotWhereYesterday x = new NotWhereYesterday();
        x.person(0, 9);
        x.post(0, true, 1, 0);
        Checks.dayOf(x, 0);
        x.day();
        Checks.is("who can't is left out, and must", x.law(0, 1), 0);
        Checks.rowIs("but not of best()", x, 0);
        Checks.told(x, "a0,0-0");
        Checks.is("away is not", x.law(0, 1), 1);
    }

    private static void price() {
        Checks.part("promise 29");
        NotWhereYesterday x = Checks.wall(2, 1);
        Checks.told(x, "w7;b7");
        Checks.dayOf(x, 0);
        Checks.dayOf(x, NONE);
        Checks.dayOf(x, 1);
        Checks.is("0 may with 2, not with 3", x.price(0), 2);
        Checks.rowIs("WORTH", x, 10);
        Checks.told(x, "w1");
        Checks.is("nobody was beside another", x.price(1), 9);
        Checks.rowIs("WORTH", x, 10);
        Checks.is("WHERE stays", x.count(3), 1);
        Checks.is("another what", x.price(2), NONE);
        Checks.is("another what", x.price(-1), NONE);
        NotWhereYesterday y = Checks.wall(2, 2);
        Checks.dayOf(y, 0, 1);
        Checks.is("beside", y.price(1), 0);
        Checks.rowIs("beside", y, 20);
        y.day();
        Checks.is("beside, two days ahead", y.price(1), 1);
    }

    private static void written() {
        Checks.part("promise 30");
        NotWhereYesterday x = Checks.wall(3, 3);
        Checks.dayOf(x, 0, 1, 2);
        Checks.dayOf(x, 0, 2, 1);
        Checks.is("nothing", x.written(), 0);
        Checks.rowIs("nothing", x, 0);
        Checks.told(x, "w1;b1");
        Checks.is("one day", x.written(), 3);
        Checks.rowIs("one day", x, 2);
        Checks.told(x, "w2;b2");
        Checks.is("0 at 0 once", x.written(), 5);
        Checks.rowIs("1 and 2 once", x, 3);
        Checks.told(x, "w9;b9;f1");
        Checks.is("not at 1", x.written(), 3);
        Checks.rowIs("beside at 1, too", x, 3);
        Checks.is("new", new NotWhereYesterday().written(), 0);
    }

    private static void ever() {
        Checks.part("promise 31");
        NotWhereYesterday x = Checks.wall(2, 2);
        Checks.is("no rule", x.ever(), 2);
        Checks.rowIs("no rule", x, 2);
        Checks.told(x, "w9;b0");
        Checks.is("WHERE counts as 1", x.ever(), 2);
        Checks.told(x, "b9");
        Checks.is("0 and 1 were neighbours", x.ever(), 0);
        Checks.rowIs("0 and 1 were neighbours", x, 2);
        Checks.told(x, "w1;x0-1");
        Checks.is("0 must go to 1", x.ever(), 0);
        Checks.told(x, "w1;f0;f1;x0-1");
        Checks.is("but where it is free to stay", x.ever(), 2);
        NotWhereYesterday y = Checks.wall(3, 2);
        Checks.told(y, "b9");
        Checks.is("three in twos", y.ever(), 6);
        Checks.told(y, "w1;x0-1;x1-0");
        Checks.is("two go off and one comes on", y.ever(), 0);
        Checks.rowIs("two go off and one comes on", y, 6);
        Checks.is("more posts than people", Checks.wall(2, 3).ever(), 0);
        // behind 0 2 one can't go on: 1 would have to be at both posts
        NotWhereYesterday z = new NotWhereYesterday();
        z.person(1, 1);
        z.person(3, 1);
        z.person(2, 1);
        z.post(0, true, 1, 0);
        z.post(1, true, 1, 0);
        Checks.told(z, "w1");
        Checks.is("0 1, 0 2, 1 2 and then", z.ever(), 2);
        Checks.rowIs("0 1, 0 2, 1 2", z, 3);
    }

    private static void everWithoutAwayAndLearning() {
        Checks.part("promise 31, away");
        NotWhereYesterday x = new NotWhereYesterday();
        x.person(0, 1);
        x.person(1, 1);
        x.post(0, true, 1, 0);
        Checks.told(x, "a1,0-99");
        Checks.is("nobody is away", x.ever(), 1);
        Checks.rowIs("one can", x, 1);
        Checks.told(x, "w1");
        Checks.is("nobody learns", x.ever(), 0);
        x.put(0, 0);
        x.day();
        Checks.is("who has learnt can", x.ever(), 2);
    }

    private static void round() {
        Checks.part("promise 32");
        NotWhereYesterday x = Checks.wall(2, 2);
        Checks.is("each day the same", x.round(), 1);
        Checks.rowIs("each day the same", x, 0, 1, 0, 1);
        Checks.told(x, "w1");
        Checks.is("to and fro", x.round(), 2);
        Checks.rowIs("to and fro", x, 0, 1, 1, 0);
        Checks.told(x, "b1");
        Checks.is("none", x.round(), -2);
        Checks.rowIs("the ROW stays", x, 0, 1, 1, 0);
        NotWhereYesterday y = Checks.wall(2, 2);
        Checks.told(y, "x0-0;x0-1");
        Checks.is("nobody stays on", y.round(), -2);
        Checks.is("no posts", new NotWhereYesterday().round(), 1);
        // only 1 and 2 can do post 0: the least is not 0's
        NotWhereYesterday z = new NotWhereYesterday();
        z.person(0, 1);
        z.person(1, 1);
        z.person(1, 1);
        z.post(0, true, 1, 0);
        Checks.told(z, "w1");
        Checks.is("1 and 2", z.round(), 2);
        Checks.rowIs("1 and 2", z, 1, 2);
    }

    private static void roundOfThree() {
        Checks.part("promise 32, of three");
        NotWhereYesterday x = Checks.wall(3, 3);
        Checks.told(x, "w1;x0-1;x1-2;x2-0");
        // all go from a post to the one ahead of it: 0 1 2, 1 2 0, 2 0 1
        Checks.is("three", x.round(), 3);
        Checks.rowIs("three", x, 0, 1, 2, 1, 2, 0);
        Checks.is("for ever", x.ever(), 6);
        NotWhereYesterday y = Checks.wall(3, 1);
        Checks.told(y, "w1");
        Checks.is("two are enough", y.round(), 2);
        Checks.rowIs("of equal ones the least", y, 0, 1);
    }

    private static void lasts() {
        Checks.part("promise 33");
        NotWhereYesterday x = Checks.wall(3, 2);
        Checks.is("no rule", x.lasts(), 20);
        Checks.told(x, "w1;x0-1;x1-0");
        Checks.is("the first may be any", x.lasts(), 1);
        Checks.dayOf(x, 0, NONE);
        // 1 2 or 2 1 may follow, then only 0 could go on
        Checks.is("from yesterday's", x.lasts(), 1);
        Checks.dayOf(x, 0, 1);
        Checks.is("only 2 may follow", x.lasts(), 0);
        Checks.dayOf(x);
        Checks.is("an empty one bars nothing", x.lasts(), 1);
        Checks.is("too few people", Checks.wall(1, 2).lasts(), 0);
        NotWhereYesterday y = new NotWhereYesterday();
        y.person(0, 9);
        y.person(1, 9);
        y.post(0, true, 1, 0);
        Checks.told(y, "w9;a1,0-99");
        Checks.is("one day", y.lasts(), 1);
        Checks.dayOf(y, 0);
        Checks.is("from one who can't", y.lasts(), 1);
        Checks.dayOf(y, 1);
        Checks.is("from the one who can", y.lasts(), 0);
        NotWhereYesterday z = Checks.wall(2, 2);
        Checks.told(z, "b1");
        Checks.dayOf(z, 0, 1);
        Checks.is("they were neighbours", z.lasts(), 0);
        z.day();
        Checks.is("they were not", z.lasts(), 1);
    }

    private static void lessons() {
        Checks.part("promise 34");
        NotWhereYesterday x = new NotWhereYesterday();
        x.person(0, 1);
        x.person(0, 1);
        x.post(2, true, 1, 0);
        x.works(0);
        Checks.is("one does", x.lessons(), 1);
        Checks.rowIs("one does", x, 0, 2);
        Checks.told(x, "w1");
        Checks.is("both", x.lessons(), 2);
        Checks.rowIs("both", x, 0, 2, 1, 2);
        x.post(3, false, 1, 0);
        Checks.is("two do not do", x.lessons(), -2);
        Checks.rowIs("the ROW stays", x, 0, 2, 1, 2);
        Checks.told(x, "");
        Checks.is("one each", x.lessons(), 2);
        Checks.rowIs("one each", x, 0, 2, 1, 3);
        Checks.is("crafts stay", x.crafts(0, NONE), 0);
        NotWhereYesterday y = Checks.wall(1, 1);
        y.works(0);
        Checks.is("none is needed", y.lessons(), 0);
        Checks.rowIs("none is needed", y);
        Checks.is("more posts than people", Checks.wall(1, 2).lessons(), -2);
    }

    private static void lessonsLeast() {
        Checks.part("promise 34, the least");
        NotWhereYesterday x = new NotWhereYesterday();
        x.person(32, 1);
        x.person(0, 1);
        x.person(16, 1);
        x.post(5, true, 1, 0);
        x.post(4, true, 1, 0);
        Checks.told(x, "w1");
        // 0 has 5, 2 has 4: each post needs one more
        Checks.is("two", x.lessons(), 2);
        Checks.rowIs("two", x, 0, 4, 1, 5);
        Checks.told(x, "w1;f1");
        Checks.is("one", x.lessons(), 1);
        Checks.rowIs("one", x, 1, 5);
        Checks.told(x, "w1;f0");
        Checks.is("the other", x.lessons(), 1);
        Checks.rowIs("the other", x, 1, 4);
    }

    private static void most() {
        Checks.part("promise 35");
        NotWhereYesterday x = Checks.wall(3, 2);
        Checks.is("one day", x.most(1), 20);
        Checks.rowIs("one day", x, 0, 1);
        Checks.is("three days", x.most(3), 60);
        Checks.rowIs("three days", x, 0, 1, 0, 1, 0, 1);
        Checks.is("0 days", x.most(0), NONE);
        Checks.is("4 days", x.most(4), NONE);
        Checks.told(x, "a0,0-0;a1,2-2");
        Checks.is("away", x.most(3), 60);
        Checks.rowIs("away", x, 1, 2, 0, 1, 0, 2);
        Checks.told(x, "a0,0-0;a1,0-0");
        Checks.is("two are away", x.most(1), -2);
        Checks.rowIs("the ROW stays", x, 1, 2, 0, 1, 0, 2);
        NotWhereYesterday y = new NotWhereYesterday();
        y.person(0, 1);
        y.post(0, true, 1, 0);
        Checks.is("nobody learns", y.most(2), -2);
        Checks.is("no posts", new NotWhereYesterday().most(3), 0);
        NotWhereYesterday z = Checks.wall(1, 1);
        z.go(0, 60);
        Checks.is("behind the last day, too", z.most(3), 30);
    }

    private static void mostByLossAndWhere() {
        Checks.part("promise 35, loss");
        NotWhereYesterday x = new NotWhereYesterday();
        x.person(63, 1);
        x.person(63, 1);
        x.person(63, 1);
        x.post(NONE, true, 1, 4);
        Checks.dayOf(x, 2);
        Checks.is("2 did it the last time, above LONG", x.most(2), 20);
        Checks.rowIs("2 did it the last time", x, 2, 2);
        Checks.told(x, "w2");
        Checks.is("each day another one", x.most(3), 18);
        Checks.rowIs("each day another one", x, 0, 1, 2);
        Checks.told(x, "w3");
        Checks.is("WHERE 3: nobody is left", x.most(3), -2);
        Checks.is("WHERE 3: two days", x.most(2), 12);
        Checks.rowIs("WHERE 3: two days", x, 0, 1);
        Checks.told(x, "w1");
        Checks.is("0, then 2 again", x.most(2), 12);
        Checks.rowIs("0, then 1", x, 0, 1);
        Checks.told(x, "x0-0");
        Checks.is("nobody stays", x.most(3), 18);
        Checks.rowIs("nobody stays", x, 0, 1, 0);
        NotWhereYesterday y = Checks.wall(4, 2);
        Checks.told(y, "b2");
        Checks.is("beside others", y.most(3), 60);
        Checks.rowIs("beside others", y, 0, 1, 0, 2, 0, 3);
    }

    private static void mostLooksAhead() {
        Checks.part("promise 35, ahead");
        NotWhereYesterday x = new NotWhereYesterday();
        x.person(63, 1);
        x.person(63, 1);
        x.post(NONE, true, 1, 3);
        Checks.told(x, "a0,1-1");
        // 0 today would be handed on; 1 can do it both days
        Checks.is("1 both days", x.most(2), 20);
        Checks.rowIs("1 both days", x, 1, 1);
        Checks.told(x, "a0,1-1;w1;a1,1-1");
        Checks.is("nobody tomorrow", x.most(2), -2);
        Checks.is("but today", x.most(1), 10);
        Checks.rowIs("but today", x, 0);
    }

    private static void fresh() {
        Checks.part("promise 36");
        NotWhereYesterday x = Checks.wall(2, 1);
        Checks.is("the best", x.fresh(), 10);
        Checks.rowIs("the best", x, 0);
        Checks.dayOf(x, 0);
        Checks.is("the other one", x.fresh(), 10);
        Checks.rowIs("the other one", x, 1);
        Checks.dayOf(x, 1);
        Checks.is("none", x.fresh(), 0);
        Checks.rowIs("none", x, NONE);
        x.day();
        Checks.is("all were", x.fresh(), -2);
        Checks.rowIs("the ROW stays", x, NONE);
        NotWhereYesterday y = Checks.wall(2, 1);
        Checks.dayOf(y, 0);
        y.day();
        Checks.told(y, "w2");
        Checks.is("WHERE 2", y.fresh(), 10);
        Checks.rowIs("WHERE 2", y, 1);
        Checks.told(y, "w2;a1,2-2");
        Checks.is("nobody may, and nobody was", y.fresh(), -2);
        NotWhereYesterday z = new NotWhereYesterday();
        Checks.is("no posts", z.fresh(), 0);
        z.day();
        Checks.is("no posts, a day", z.fresh(), -2);
        NotWhereYesterday v = Checks.wall(3, 2);
        Checks.dayOf(v, 0, 1);
        v.day();
        Checks.told(v, "b2");
        Checks.is("BESIDE 2", v.fresh(), 20);
        Checks.rowIs("BESIDE 2", v, 0, 2);
    }

    private static void many() {
        Checks.part("promises 31 to 36, -3");
        NotWhereYesterday x = Checks.wall(6, 1);
        NotWhereYesterday y = Checks.wall(1, 6);
        x.works(0);
        for (NotWhereYesterday z : new NotWhereYesterday[] {x, y}) {
            Checks.is("ever", z.ever(), -3);
            Checks.is("round", z.round(), -3);
            Checks.is("lasts", z.lasts(), -3);
            Checks.is("lessons", z.lessons(), -3);
            Checks.is("most", z.most(1), -3);
            Checks.is("most", z.most(3), -3);
            // another n goes ahead of too many
            Checks.is("most, 0 days", z.most(0), NONE);
            Checks.is("most, 4 days", z.most(4), NONE);
            Checks.is("most, -1 days", z.most(-1), NONE);
            Checks.is("fresh", z.fresh(), -3);
        }
        Checks.rowIs("the ROW stays", x, 0, NONE);
        NotWhereYesterday five = Checks.wall(5, 5);
        Checks.is("five of five", five.ever(), 120);
        Checks.rowIs("five of five", five, 120);
        Checks.told(five, "w9");
        Checks.is("five go round", five.ever(), 120);
        Checks.is("five go round", five.round(), 2);
        Checks.rowIs("five go round", five, 0, 1, 2, 3, 4, 1, 0, 3, 4, 2);
        Checks.is("five", five.lasts(), 20);
        Checks.is("five", five.lessons(), 0);
        Checks.is("five", five.most(3), 150);
        Checks.is("five", five.fresh(), 50);
        NotWhereYesterday four = Checks.wall(5, 4);
        Checks.is("five of four", four.ever(), 120);
        Checks.is("one of five", Checks.wall(1, 5).ever(), 0);
    }
}
