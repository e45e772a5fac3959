/** Promises 18 to 27: the best filling. */
public final class BestTest {
    private static final int NONE = NotWhereYesterday.NONE;

    public static void main(String[] args) {
        best();
        bestByNeighbours();
        bestOfTen();
        fill();
        ill();
        illLikeTheDraft();
        free();
        freeBesideAll();
        worth();
        none();
        can();
        breaking();
        breakingOncePerOne();
        few();
        till();
        Checks.end();
    }

    private static NotWhereYesterday two() {
        NotWhereYesterday x = new NotWhereYesterday();
        x.person(63, 1);
        x.person(63, 1);
        x.post(NONE, true, 1, 0);
        x.post(NONE, false, 1, 0);
        return x;
    }

    private static void best() {
        Checks.part("promise 18");
        NotWhereYesterday x = two();
        Checks.is("all", x.best(), 1020);
        Checks.rowIs("all, the least", x, 0, 1);
        Checks.told(x, "w1");
        Checks.dayOf(x, 0);
        Checks.is("not where it was", x.best(), 1020);
        Checks.rowIs("not where it was", x, 1, 0);
        Checks.told(x, "a0,1-1");
        Checks.is("one is away", x.best(), 1010);
        Checks.rowIs("one is away", x, 1, NONE);
        Checks.told(x, "a0,1-1;a1,1-1");
        Checks.is("all are away", x.best(), 0);
        Checks.rowIs("all are away", x, NONE, NONE);
        NotWhereYesterday y = Checks.wall(1, 3);
        Checks.is("NONE is least", y.best(), 10);
        Checks.rowIs("NONE is least", y, NONE, NONE, 0);
        NotWhereYesterday z = new NotWhereYesterday();
        z.person(2, 1);
        z.person(3, 1);
        z.post(1, false, 1, 0);
        z.post(0, false, 1, 0);
        Checks.is("by crafts", z.best(), 20);
        Checks.rowIs("by crafts", z, 0, 1);
        Checks.dayOf(z, 0, 1);
        Checks.told(z, "w1");
        Checks.is("by crafts", z.best(), 10);
        Checks.rowIs("by crafts", z, 1, NONE);
        Checks.is("the draft stays", z.count(5), 0);
    }

    private static void bestByNeighbours() {
        Checks.part("promise 18, neighbours");
        NotWhereYesterday x = Checks.wall(3, 3);
        Checks.told(x, "b1");
        Checks.dayOf(x, 0, 1, 2);
        // 1 may not be beside 0, nor beside 2: of three there is no row
        Checks.is("two of them", x.best(), 20);
        Checks.rowIs("two of them", x, NONE, 0, 2);
        Checks.dayOf(x, 0, NONE, 1);
        Checks.is("none was a neighbour", x.best(), 30);
        Checks.rowIs("none was a neighbour", x, 0, 1, 2);
    }

    private static void bestOfTen() {
        Checks.part("promise 18, ten");
        NotWhereYesterday x = Checks.wall(10, 10);
        Checks.told(x, "w9;b1");
        for (int d = 0; d < 10; d++) {
            int worth = x.best();
            x.fill();
            Checks.is("it is good", x.good(), 1);
            Checks.is("and as worth", x.row(0), worth);
            x.day();
        }
        NotWhereYesterday y = Checks.wall(10, 10);
        Checks.told(y, "w9");
        Checks.is("nine days of a ring", y.go(0, 9), 0);
        Checks.is("the last one", y.best(), 100);
        Checks.rowIs("the last one", y, 9, 0, 1, 2, 3, 4, 5, 6, 7, 8);
    }

    private static void fill() {
        Checks.part("promise 19");
        NotWhereYesterday x = two();
        x.put(0, 1);
        x.works(0);
        Checks.is("worth", x.fill(), 1020);
        Checks.is("post 0", x.who(0, 0), 0);
        Checks.is("post 1", x.who(0, 1), 1);
        Checks.rowIs("the ROW stays", x, 0, NONE);
        Checks.told(x, "a1,0-0");
        Checks.is("one is away", x.fill(), 1010);
        Checks.is("filled", x.count(5), 1);
        Checks.is("an empty wall", new NotWhereYesterday().fill(), 0);
    }

    private static void ill() {
        Checks.part("promise 20");
        NotWhereYesterday x = two();
        x.person(63, 1);
        Checks.draft(x, 2, 1);
        Checks.is("who is in the draft", x.ill(2), 1);
        Checks.rowIs("who is in the draft", x, 1020, 0, 1);
        Checks.is("who is not", x.ill(0), 0);
        Checks.rowIs("who is not", x, 1020, 2, 1);
        Checks.is("none such", x.ill(3), NONE);
        Checks.is("none such", x.ill(-1), NONE);
        Checks.rowIs("the ROW stays", x, 1020, 2, 1);
        Checks.told(x, "a0,0-0;a1,0-0");
        Checks.is("all are away", x.ill(2), 2);
        Checks.rowIs("all are away", x, 0, NONE, NONE);
        Checks.is("the draft stays", x.who(0, 0), 2);
    }

    private static void illLikeTheDraft() {
        Checks.part("promise 20, like the draft");
        NotWhereYesterday x = Checks.wall(4, 3);
        Checks.draft(x, 3, 2, 1);
        Checks.is("one post otherwise", x.ill(2), 1);
        Checks.rowIs("one post otherwise", x, 30, 3, 0, 1);
        Checks.draft(x, NONE, 2, NONE);
        Checks.told(x, "a0,0-0;a1,0-0");
        Checks.is("worth ahead of likeness", x.ill(3), 0);
        Checks.rowIs("worth ahead of likeness", x, 10, NONE, 2, NONE);
        Checks.is("the other one", x.ill(2), 1);
        Checks.rowIs("it takes the least place of as few", x, 10, NONE, 3, NONE);
        Checks.told(x, "a1,0-0");
        Checks.draft(x, 3);
        Checks.is("two are free to go, one post stays", x.ill(2), 1);
        Checks.rowIs("two are free to go, one post stays", x, 20, 3, NONE, 0);
    }

    private static void free() {
        Checks.part("promise 21");
        NotWhereYesterday x = two();
        Checks.told(x, "w1");
        Checks.dayOf(x, 0, 1);
        Checks.is("all can go on", x.free(0), 0);
        Checks.told(x, "w1;a1,1-1;x0-1");
        Checks.is("best", x.best(), 0);
        Checks.is("of where, of from where", x.free(0), 1010);
        Checks.is("not of being away", x.free(1), 0);
        Checks.is("all", x.free(NONE), 1010);
        Checks.told(x, "x0-1;x0-0;x1-1;x1-0");
        Checks.is("nobody may be anywhere", x.best(), 0);
        Checks.is("one", x.free(1), 1010);
        Checks.is("all", x.free(NONE), 1020);
        Checks.is("none such", x.free(2), NONE);
        Checks.is("none such", x.free(-2), NONE);
        Checks.is("nobody at all", new NotWhereYesterday().free(NONE), 0);
        Checks.is("none such", new NotWhereYesterday().free(0), NONE);
        NotWhereYesterday y = new NotWhereYesterday();
        y.person(0, 9);
        y.post(0, true, 1, 0);
        Checks.is("not of crafts", y.free(NONE), 0);
    }

    private static void freeBesideAll() {
        Checks.part("promise 21, beside");
        NotWhereYesterday x = Checks.wall(3, 3);
        Checks.told(x, "b1");
        Checks.dayOf(x, 0, 1, 2);
        Checks.is("best", x.best(), 20);
        Checks.is("1 beside all", x.free(1), 10);
        Checks.is("0 beside 1: 1 0 2", x.free(0), 10);
        Checks.is("all", x.free(NONE), 10);
        NotWhereYesterday y = Checks.wall(2, 2);
        Checks.told(y, "b1");
        Checks.dayOf(y, 0, 1);
        Checks.is("the one", y.free(0), 10);
        Checks.is("the other", y.free(1), 10);
    }

    private static void worth() {
        Checks.part("promise 22");
        NotWhereYesterday x = new NotWhereYesterday();
        x.post(NONE, true, 1, 0);
        Checks.is("nobody", x.worth(), -2);
        Checks.rowIs("the ROW stays", x);
        x.person(63, 1);
        x.person(63, 1);
        x.person(63, 1);
        Checks.is("of equal ones the first", x.worth(), 0);
        Checks.rowIs("nothing more", x, 0);
        Checks.told(x, "w1;a0,1-1;a2,1-1");
        Checks.dayOf(x, 1);
        Checks.is("the one who was there", x.worth(), 1);
        Checks.rowIs("the one who was there", x, 1010);
        Checks.told(x, "w1;a0,1-1");
        Checks.is("2 may be there", x.worth(), 0);
        Checks.rowIs("2 may be there", x, 0);
    }

    private static void none() {
        Checks.part("promise 23");
        NotWhereYesterday x = new NotWhereYesterday();
        Checks.is("no posts", x.none(), 0);
        x.person(1, 1);
        x.person(1, 1);
        x.person(2, 1);
        x.post(NONE, false, 1, 0);
        x.post(0, true, 1, 0);
        x.post(1, true, 1, 0);
        x.works(0);
        Checks.is("none", x.none(), 0);
        Checks.rowIs("the ROW is empty", x);
        x.post(1, true, 1, 0);
        Checks.is("two posts, one person", x.none(), 2);
        Checks.rowIs("two posts, one person", x, 12, 4);
        x.post(5, true, 1, 0);
        Checks.is("one post, nobody", x.none(), 1);
        Checks.rowIs("one post, nobody", x, 16, 0);
        Checks.told(x, "a0,0-0;a1,0-0");
        Checks.is("of as few the least bits", x.none(), 1);
        Checks.rowIs("of as few the least bits", x, 2, 0);
        NotWhereYesterday y = new NotWhereYesterday();
        y.person(1, 1);
        y.post(1, false, 1, 0);
        y.post(1, false, 1, 0);
        Checks.is("none must be filled", y.none(), 0);
        NotWhereYesterday z = new NotWhereYesterday();
        z.person(63, 1);
        z.person(63, 1);
        for (int p = 0; p < 3; p++) {
            z.post(NONE, true, 1, 0);
        }
        Checks.is("three posts, two of people", z.none(), 3);
        Checks.rowIs("three posts, two of people", z, 7, 3);
        Checks.told(z, "w2");
        Checks.dayOf(z, NONE, 1);
        Checks.dayOf(z, NONE, NONE, 1);
        Checks.is("two posts, one who was at neither", z.none(), 2);
        Checks.rowIs("two posts, one who was at neither", z, 6, 1);
    }

    private static void can() {
        Checks.part("promise 24");
        NotWhereYesterday x = new NotWhereYesterday();
        x.person(1, 1);
        x.person(3, 1);
        x.person(2, 1);
        x.post(0, true, 1, 0);
        x.post(NONE, true, 1, 0);
        Checks.is("craft 0", x.can(0), 3);
        Checks.is("no craft", x.can(1), 7);
        Checks.told(x, "w1;x1-0");
        Checks.dayOf(x, 0, 1);
        Checks.is("0 was there, 1 comes from 1", x.can(0), 0);
        Checks.is("not who was there", x.can(1), 5);
        Checks.told(x, "a1,1-1");
        Checks.is("one is away", x.can(0), 1);
        Checks.is("no such post", x.can(2), NONE);
        Checks.is("no such post", x.can(-1), NONE);
    }

    private static void breaking() {
        Checks.part("promise 25");
        NotWhereYesterday x = two();
        Checks.told(x, "w1;x0-1");
        Checks.dayOf(x, 0, NONE);
        Checks.told(x, "w1;x0-1;a1,1-1");
        Checks.is("for nothing", x.breaking(0), 1010);
        Checks.rowIs("for nothing", x, 1010, 1, 0, NONE);
        Checks.is("for 1009", x.breaking(1009), 1);
        Checks.rowIs("for 1009", x, 1010, 1, 0, NONE);
        Checks.is("for 1010 the least row", x.breaking(1010), 0);
        Checks.rowIs("for 1010 the least row", x, 0, 0, NONE, NONE);
        Checks.is("for 5000", x.breaking(5000), 0);
        Checks.is("another price", x.breaking(-1), NONE);
        Checks.is("another price", x.breaking(5001), NONE);
        Checks.rowIs("the ROW stays", x, 0, 0, NONE, NONE);
        NotWhereYesterday y = new NotWhereYesterday();
        y.person(0, 9);
        y.post(0, true, 1, 0);
        Checks.is("only those who can", y.breaking(0), 0);
        Checks.is("an empty wall", new NotWhereYesterday().breaking(5), 0);
    }

    private static void breakingOncePerOne() {
        Checks.part("promise 25, how often");
        NotWhereYesterday x = Checks.wall(2, 2);
        Checks.dayOf(x, 0, 1);
        Checks.told(x, "w1;x0-0;b1");
        // 0 at 0: WHERE and from 0 to 0, once; 1 at 1; the two neighbours
        Checks.is("for nothing", x.breaking(0), 20);
        Checks.rowIs("for nothing", x, 20, 3, 0, 1);
        Checks.is("1 0 costs once", x.breaking(3), 17);
        Checks.rowIs("1 0 costs once", x, 20, 1, 1, 0);
        Checks.is("for 10 the least row", x.breaking(10), 10);
        Checks.rowIs("for 10 the least row", x, 10, 0, NONE, 0);
    }

    private static void few() {
        Checks.part("promise 26");
        NotWhereYesterday x = new NotWhereYesterday();
        x.person(1, 1);
        x.person(2, 1);
        x.person(3, 1);
        x.post(0, true, 1, 0);
        x.post(NONE, true, 1, 0);
        x.post(4, true, 1, 0);
        Checks.is("WHERE 0", x.few(0), 0);
        Checks.rowIs("WHERE 0", x, 5);
        Checks.is("one is needed", x.few(2), 1);
        Checks.rowIs("one is needed", x, 0);
        Checks.told(x, "w2;a0,0-9");
        Checks.is("three are needed", x.few(0), 1);
        Checks.is("there are three", x.few(1), 0);
        Checks.rowIs("there are three", x, 7);
        Checks.told(x, "w9;f0;f2;x0-0");
        Checks.is("free", x.few(0), 0);
        Checks.is("free, nobody", x.few(2), 1);
        Checks.is("ten are needed", x.few(1), 7);
        Checks.is("no such post", x.few(3), NONE);
        Checks.is("no such post", x.few(-1), NONE);
    }

    private static void till() {
        Checks.part("promise 27");
        NotWhereYesterday x = new NotWhereYesterday();
        x.person(63, 1);
        x.post(NONE, false, 1, 10);
        x.post(NONE, false, 2, 10);
        x.post(NONE, false, 9, 9);
        x.post(NONE, false, 3, 5);
        Checks.is("the first time nothing is lost", x.till(0, 0), 1);
        Checks.is("never", x.till(1, 0), -2);
        Checks.is("always by one", x.till(1, 1), 2);
        Checks.is("10 and 80 times 1", x.till(2, 0), 81);
        Checks.is("nine days", x.till(2, 1), 9);
        Checks.is("10 15 20 25 30", x.till(3, 0), 5);
        Checks.dayOf(x, NONE, NONE, NONE, 0);
        Checks.is("15 20 25 30", x.till(3, 0), 4);
        Checks.is("20 30", x.till(3, 1), 2);
        Checks.dayOf(x, 0);
        Checks.is("behind the first one never", x.till(0, 0), -2);
        Checks.is("another what", x.till(0, 2), NONE);
        Checks.is("another what", x.till(0, -1), NONE);
        Checks.is("no such post", x.till(4, 0), NONE);
        Checks.is("no such post", x.till(-1, 1), NONE);
    }
}
