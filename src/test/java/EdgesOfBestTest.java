/** Promises 18 to 27: each sentence that names an edge has a test of its own here. */
public final class EdgesOfBestTest {
    private static final int NONE = NotWhereYesterday.NONE;
    private static final int LOW = Integer.MIN_VALUE;
    private static final int HIGH = Integer.MAX_VALUE;

    public static void main(String[] args) {
        bestOfNone();
        bestOfTen();
        bestOfEqualOnesTheLeastRow();
        bestNoneIsLeast();
        bestTakesWorthAheadOfTheRow();
        bestBehindTheLastDay();
        bestOverAnEmptyPost();
        bestOfTenBeside();
        fillIsThat();
        fillOfNone();
        illOfNoneSuch();
        illWorthFirst();
        illFewestPostsOtherwise();
        illThenTheLeastRow();
        illOfNoneAndOfAllPosts();
        illOfTenBeside();
        freeOfNoneSuch();
        freeOfAll();
        freeNotOfBeingAway();
        freeBesideWithAll();
        worthOfNobody();
        worthOfEqualOnesTheFirst();
        noneAtAll();
        noneOfPostsThatMustBeFilled();
        noneFewestAndLeastBits();
        noneOfAsManyAsPosts();
        noneOfTen();
        canOfNoneSuch();
        canOfNobodyAndOfTen();
        breakingPrices();
        breakingOnceForOneAtAPost();
        breakingOfThoseWhoCan();
        breakingOfEqualOnesTheLeastRow();
        breakingOfTen();
        fewAtLeast0();
        fewOneIfFree();
        fewOneMoreThanWhere();
        fewOfNoneSuch();
        tillByAnother();
        tillByTheSame();
        tillNever();
        tillOthers();
        Checks.end();
    }

    private static NotWhereYesterday walk(int people, int posts, String rule, int... day) {
        NotWhereYesterday x = Checks.wall(people, posts);
        Checks.told(x, rule);
        Checks.dayOf(x, day);
        return x;
    }

    private static void bestOfNone() {
        Checks.part("18: of none");
        Checks.is("nobody, no posts", new NotWhereYesterday().best(), 0);
        NotWhereYesterday x = Checks.wall(0, 10);
        Checks.is("nobody", x.best(), 0);
        Checks.rowIs("nobody", x, NONE, NONE, NONE, NONE, NONE, NONE, NONE, NONE, NONE, NONE);
        NotWhereYesterday y = Checks.wall(10, 0);
        Checks.is("no posts", y.best(), 0);
        Checks.rowIs("no posts", y);
        NotWhereYesterday z = Checks.wall(2, 2);
        Checks.told(z, "a0,0-0;a1,0-0");
        Checks.is("all are away", z.best(), 0);
        Checks.rowIs("all are away", z, NONE, NONE);
    }

    private static void bestOfTen() {
        Checks.part("18: of ten");
        NotWhereYesterday x = Checks.wall(10, 0);
        for (int p = 0; p < 10; p++) {
            x.post(p % 7 - 1, true, 1, 0);
        }
        Checks.is("ten of ten", x.best(), 10100);
        Checks.rowIs("ten of ten", x, 0, 1, 2, 3, 4, 5, 6, 7, 8, 9);
        NotWhereYesterday y = Checks.wall(10, 1);
        Checks.is("one of ten", y.best(), 10);
        Checks.rowIs("one of ten", y, 0);
        NotWhereYesterday z = Checks.wall(1, 10);
        Checks.is("ten of one", z.best(), 10);
        Checks.rowIs("ten of one", z, NONE, NONE, NONE, NONE, NONE, NONE, NONE, NONE, NONE, 0);
    }

    private static void bestOfEqualOnesTheLeastRow() {
        Checks.part("18: of equal ones the least row");
        NotWhereYesterday x = walk(3, 3, "w1", 0, 1, 2);
        Checks.is("not 0 at 0, not 1 at 1, not 2 at 2", x.best(), 30);
        Checks.rowIs("not 0 at 0, not 1 at 1, not 2 at 2", x, 1, 2, 0);
        Checks.told(x, "w1;b1");
        Checks.is("two of three", x.best(), 20);
        Checks.rowIs("two of three", x, NONE, 2, 0);
    }

    private static void bestNoneIsLeast() {
        Checks.part("18: (NONE is least)");
        NotWhereYesterday x = Checks.wall(2, 3);
        Checks.is("two of three", x.best(), 20);
        Checks.rowIs("two of three", x, NONE, 0, 1);
        x.post(NONE, true, 1, 0);
        Checks.is("one of them must be filled", x.best(), 1020);
        Checks.rowIs("one of them must be filled", x, NONE, NONE, 0, 1);
    }

    private static void bestTakesWorthAheadOfTheRow() {
        Checks.part("18: of the greatest WORTH");
        NotWhereYesterday x = Checks.wall(1, 0);
        x.post(NONE, true, 1, 0);
        for (int p = 1; p < 10; p++) {
            x.post(NONE, false, 1, 0);
        }
        Checks.is("which must", x.best(), 1010);
        Checks.rowIs("which must", x, 0, NONE, NONE, NONE, NONE, NONE, NONE, NONE, NONE, NONE);
    }

    private static void bestBehindTheLastDay() {
        Checks.part("18: for TODAY, when no DAY can go by any more");
        NotWhereYesterday x = Checks.wall(2, 1);
        Checks.told(x, "w1;a0,60-60");
        x.go(1, 60);
        Checks.is("0 is away, 1 was there", x.best(), 0);
        Checks.told(x, "w1");
        Checks.is("0 may", x.best(), 10);
        Checks.rowIs("0 may", x, 0);
        Checks.is("fill", x.fill(), 10);
        Checks.is("the draft", x.who(60, 0), 0);
    }

    private static void bestOverAnEmptyPost() {
        Checks.part("18: an empty POST between two who may not be NEIGHBOURS");
        NotWhereYesterday x = new NotWhereYesterday();
        x.person(0, 9);
        x.person(0, 9);
        x.post(NONE, false, 1, 0);
        x.post(3, true, 1, 0);
        x.post(NONE, false, 1, 0);
        Checks.told(x, "b1");
        Checks.dayOf(x, 0, 1);
        Checks.is("nobody can be at the one between", x.best(), 20);
        Checks.rowIs("nobody can be at the one between", x, 0, NONE, 1);
        Checks.is("of breaking, too", x.breaking(1), 20);
        Checks.rowIs("of breaking, too", x, 20, 0, 0, NONE, 1);
        x.post(NONE, true, 1, 0);
        Checks.is("beside, the one must be filled", x.best(), 1020);
        Checks.rowIs("beside, the one must be filled", x, 0, NONE, NONE, 1);
    }

    private static void bestOfTenBeside() {
        Checks.part("18: the last of ten PEOPLE, who may not be beside the first");
        NotWhereYesterday x = Checks.wall(10, 2);
        Checks.told(x, "b1;a1,1-1;a2,1-1;a3,1-1;a4,1-1;a5,1-1;a6,1-1;a7,1-1");
        Checks.dayOf(x, 9, 0);
        Checks.is("8 and 9 are not away", x.best(), 20);
        Checks.rowIs("8 is beside the first", x, 0, 8);
        Checks.told(x, "b1;a1,1-1;a2,1-1;a3,1-1;a4,1-1;a5,1-1;a6,1-1;a7,1-1;a8,1-1");
        Checks.is("0 and 9 alone", x.best(), 10);
        Checks.rowIs("0 and 9 alone", x, NONE, 0);
        Checks.is("9 beside all", x.free(9), 10);
        Checks.is("nobody else", x.free(8), 0);
        x.post(NONE, false, 1, 0);
        Checks.is("one post between", x.best(), 20);
        Checks.rowIs("one post between", x, 0, NONE, 9);
        Checks.told(x, "b1;a0,1-1;a1,1-1;a2,1-1;a3,1-1;a4,1-1;a5,1-1;a6,1-1");
        Checks.dayOf(x, NONE, 8, 9);
        Checks.told(x, "b1;a0,2-2;a1,2-2;a2,2-2;a3,2-2;a4,2-2;a5,2-2;a6,2-2");
        Checks.is("7, 8 and 9: 9 not beside 8", x.best(), 30);
        Checks.rowIs("7, 8 and 9: 9 not beside 8", x, 8, 7, 9);
    }

    private static void fillIsThat() {
        Checks.part("19: THE DRAFT becomes that: its WORTH");
        NotWhereYesterday x = walk(2, 3, "w1", 0, 1);
        Checks.draft(x, 0, 1);
        Checks.is("fill", x.fill(), 20);
        Checks.is("nobody", x.who(1, 0), NONE);
        Checks.is("post 1", x.who(1, 1), 0);
        Checks.is("post 2", x.who(1, 2), 1);
        Checks.is("today", x.count(2), 1);
    }

    private static void fillOfNone() {
        Checks.part("19: of none");
        Checks.is("nobody, no posts", new NotWhereYesterday().fill(), 0);
        NotWhereYesterday x = Checks.wall(1, 2);
        x.put(0, 0);
        Checks.told(x, "a0,0-0");
        Checks.is("one who is away", x.fill(), 0);
        Checks.is("filled", x.count(5), 0);
    }

    private static void illOfNoneSuch() {
        Checks.part("20: NONE: none such");
        NotWhereYesterday x = Checks.wall(2, 2);
        for (int one : new int[] {-1, 2, 9, 10, LOW, HIGH}) {
            Checks.is("one " + one, x.ill(one), NONE);
        }
        Checks.is("the last", x.ill(1), 1);
        Checks.rowIs("the last", x, 10, NONE, 0);
    }

    private static void illWorthFirst() {
        Checks.part("20: of those of as great WORTH");
        NotWhereYesterday x = new NotWhereYesterday();
        x.person(0, 1);
        x.person(0, 1);
        x.post(NONE, true, 1, 0);
        for (int p = 1; p < 10; p++) {
            x.post(NONE, false, 1, 0);
        }
        Checks.draft(x, 1, 0);
        Checks.is("the one who is left is taken from where it was", x.ill(1), 2);
        Checks.rowIs("the one who is left is taken from where it was", x, 1010, 0, NONE, NONE, NONE, NONE, NONE, NONE, NONE,
            NONE, NONE);
        Checks.draft(x);
        Checks.is("one post more than none", x.ill(0), 1);
        Checks.rowIs("one post more than none", x, 1010, 1, NONE, NONE, NONE, NONE, NONE, NONE, NONE, NONE, NONE);
    }

    private static void illFewestPostsOtherwise() {
        Checks.part("20: that which has the fewest POSTS otherwise than THE DRAFT has");
        NotWhereYesterday x = Checks.wall(4, 3);
        Checks.draft(x, 3, 2, 0);
        Checks.is("the place of who is ill", x.ill(0), 1);
        Checks.rowIs("the place of who is ill", x, 30, 3, 2, 1);
        Checks.is("who is not in it", x.ill(1), 0);
        Checks.rowIs("who is not in it", x, 30, 3, 2, 0);
        Checks.is("best() is not by the draft", x.best(), 30);
        Checks.rowIs("best() is not by the draft", x, 0, 1, 2);
        Checks.draft(x);
        x.ill(0);
        x.post(NONE, false, 1, 0);
        x.post(NONE, false, 1, 0);
        x.ill(0);
        Checks.is("best() is not by an empty draft", x.best(), 40);
        Checks.rowIs("best() is not by an empty draft", x, NONE, 0, 1, 2, 3);
        x = Checks.wall(4, 3);
        Checks.draft(x, 3, NONE, 0);
        Checks.is("an empty post is otherwise, too", x.ill(3), 2);
        Checks.rowIs("an empty post is otherwise, too", x, 30, 1, 2, 0);
        Checks.told(x, "a1,0-0;a2,0-0");
        Checks.is("as empty as it was", x.ill(2), 0);
        Checks.rowIs("as empty as it was", x, 20, 3, NONE, 0);
    }

    private static void illThenTheLeastRow() {
        Checks.part("20: then the least row");
        NotWhereYesterday x = Checks.wall(4, 3);
        Checks.draft(x, 3, 2, 1);
        Checks.is("who is ill", x.ill(0), 0);
        Checks.told(x, "a2,0-0");
        // 2 is away: of 0, 3, 1 one stands for it, or none, which brings less
        Checks.is("one for 2", x.ill(2), 1);
        Checks.rowIs("one for 2", x, 30, 3, 0, 1);
        Checks.told(x, "a2,0-0;a0,0-0");
        Checks.is("an empty one", x.ill(2), 1);
        Checks.rowIs("an empty one", x, 20, 3, NONE, 1);
        Checks.draft(x, 2);
        // with 2 at 0 drafted and the others empty, one more than the draft must be filled
        Checks.is("the place of 2 and one more", x.ill(2), 2);
        Checks.rowIs("the place of 2 and one more", x, 20, 1, NONE, 3);
    }

    private static void illOfNoneAndOfAllPosts() {
        Checks.part("20: how many POSTS are otherwise: none, ten");
        NotWhereYesterday x = Checks.wall(10, 10);
        Checks.is("nine of ten", x.ill(0), 9);
        Checks.rowIs("nine of ten", x, 90, NONE, 1, 2, 3, 4, 5, 6, 7, 8, 9);
        x.sheet(2, 10, 0, 1);
        Checks.is("one of ten", x.ill(9), 1);
        Checks.rowIs("one of ten", x, 90, 0, 1, 2, 3, 4, 5, 6, 7, 8, NONE);
        Checks.told(x, "a0,0-0;a1,0-0;a2,0-0;a3,0-0;a4,0-0;a5,0-0;a6,0-0;a7,0-0");
        Checks.is("two were there, one is", x.ill(9), 9);
        NotWhereYesterday y = walk(10, 10, "w1", 0, 1, 2, 3, 4, 5, 6, 7, 8, 9);
        y.sheet(2, 10, 0, 1);
        Checks.is("all ten", y.ill(9), 10);
        NotWhereYesterday v = Checks.wall(10, 0);
        for (int p = 0; p < 10; p++) {
            v.post(NONE, true, 1, 0);
        }
        v.sheet(2, 10, 9, -1);
        Checks.is("of ten that must be filled", v.ill(0), 1);
        Checks.rowIs("of ten that must be filled", v, 9090, 9, 8, 7, 6, 5, 4, 3, 2, 1, NONE);
        NotWhereYesterday w = Checks.wall(10, 0);
        for (int p = 0; p < 9; p++) {
            w.post(NONE, true, 1, 0);
        }
        w.sheet(2, 9, 9, -1);
        Checks.is("of nine that must be filled, by who is not there", w.ill(0), 0);
        Checks.rowIs("of nine that must be filled, by who is not there", w, 9090, 9, 8, 7, 6, 5, 4, 3, 2, 1);
        NotWhereYesterday u = new NotWhereYesterday();
        u.post(0, true, 1, 0);
        u.person(0, 9);
        for (int a = 1; a < 10; a++) {
            u.person(0, 9);
            u.post(NONE, true, 1, 0);
            u.put(a, a);
        }
        Checks.is("nobody can be at the first", u.ill(0), 0);
        Checks.rowIs("nobody can be at the first", u, 9090, NONE, 1, 2, 3, 4, 5, 6, 7, 8, 9);
        Checks.is("one for the last", u.ill(9), 1);
        Checks.rowIs("one for the last", u, 9090, NONE, 1, 2, 3, 4, 5, 6, 7, 8, 0);
        NotWhereYesterday z = Checks.wall(1, 0);
        Checks.is("of no posts", z.ill(0), 0);
        Checks.rowIs("of no posts", z, 0);
    }

    private static void illOfTenBeside() {
        Checks.part("20: of ten that MUST be filled, of as few POSTS otherwise the least row");
        NotWhereYesterday x = Checks.wall(10, 0);
        for (int p = 0; p < 10; p++) {
            x.post(NONE, true, 1, 0);
        }
        Checks.told(x, "b1");
        Checks.dayOf(x, 8, 9);
        Checks.draft(x, NONE, NONE, 2, 3, 4, 5, 6, 7, 8, 9);
        // 8 and 9 may not stay beside each other: one of them goes to 0 or 1, and 1 to its place
        Checks.is("8 to post 1", x.ill(0), 2);
        Checks.rowIs("8 to post 1", x, 9090, NONE, 8, 2, 3, 4, 5, 6, 7, 1, 9);
    }

    private static void freeOfNoneSuch() {
        Checks.part("21: NONE: none such");
        NotWhereYesterday x = Checks.wall(2, 2);
        for (int one : new int[] {-2, 2, 9, 10, LOW, HIGH}) {
            Checks.is("one " + one, x.free(one), NONE);
        }
        Checks.is("the last", x.free(1), 0);
    }

    private static void freeOfAll() {
        Checks.part("21: (person NONE: all were)");
        NotWhereYesterday x = walk(2, 2, "x0-0;x0-1;x1-0;x1-1", 0, 1);
        Checks.is("one", x.free(0), 10);
        Checks.is("all", x.free(NONE), 20);
        Checks.is("of nobody", Checks.wall(0, 2).free(NONE), 0);
        Checks.is("of no posts", Checks.wall(2, 0).free(NONE), 0);
    }

    private static void freeNotOfBeingAway() {
        Checks.part("21: not of being away");
        NotWhereYesterday x = walk(2, 2, "w9;a0,1-1", 0, 1);
        Checks.is("who is away", x.free(0), 0);
        Checks.is("all: 1 may be at 0 by THE RULE", x.free(NONE), 0);
        Checks.told(x, "w9;a0,1-1;x1-0");
        Checks.is("who is away", x.free(0), 0);
        Checks.is("who is not", x.free(1), 10);
        Checks.is("all", x.free(NONE), 10);
    }

    private static void freeBesideWithAll() {
        Checks.part("21: BESIDE with all");
        NotWhereYesterday x = walk(3, 3, "b1", 0, 1, 2);
        Checks.is("the one in the middle", x.free(1), 10);
        Checks.is("at the one end", x.free(0), 10);
        Checks.is("at the other end", x.free(2), 10);
        NotWhereYesterday y = walk(4, 4, "b1", 0, 1, 2, 3);
        Checks.is("all four, though 0 1 2 3 met", y.best(), 40);
        Checks.is("nothing to win", y.free(NONE), 0);
        NotWhereYesterday z = walk(3, 2, "b2", 0, 1);
        Checks.dayOf(z, 1, 2);
        Checks.told(z, "b2;a0,2-2");
        // by CRAFTS 0 is at the post ahead alone, 1 at the one behind
        NotWhereYesterday v = new NotWhereYesterday();
        v.person(1, 9);
        v.person(2, 9);
        v.post(0, false, 1, 0);
        v.post(1, false, 1, 0);
        Checks.told(v, "b1");
        Checks.dayOf(v, 0, 1);
        Checks.is("one of them", v.best(), 10);
        Checks.is("the one ahead", v.free(0), 10);
        Checks.is("the one behind", v.free(1), 10);
        Checks.is("all", v.free(NONE), 10);
        Checks.is("1 beside 2", z.free(1), 10);
        Checks.is("2 beside 1", z.free(2), 10);
        Checks.is("0 is away", z.free(0), 0);
    }

    private static void worthOfNobody() {
        Checks.part("22: -2: nobody");
        NotWhereYesterday x = Checks.wall(0, 2);
        Checks.is("nobody", x.worth(), -2);
        x.person(0, 1);
        Checks.is("the one there is", x.worth(), 0);
        Checks.rowIs("the one there is", x, 0);
    }

    private static void worthOfEqualOnesTheFirst() {
        Checks.part("22: of equal ones the first");
        NotWhereYesterday x = walk(3, 1, "w1;a0,1-1;x0-0", 1);
        Checks.is("nobody wins", x.worth(), 0);
        Checks.rowIs("nobody wins", x, 0);
        Checks.told(x, "w1;a0,1-1;a2,1-1");
        Checks.is("the only one that wins", x.worth(), 1);
        Checks.rowIs("the only one that wins", x, 10);
        NotWhereYesterday y = walk(3, 3, "x0-0;x0-1;x0-2;x1-0;x1-1;x1-2;x2-0;x2-1;x2-2", 0, 1, 2);
        Checks.is("all win as much", y.worth(), 0);
        Checks.rowIs("all win as much", y, 10);
        NotWhereYesterday z = walk(10, 1, "w1;a0,1-1;a1,1-1;a2,1-1;a3,1-1;a4,1-1;a5,1-1", 9);
        Checks.told(z, "w1;a6,1-1;a7,1-1;a8,1-1");
        Checks.is("0 may go on", z.worth(), 0);
        Checks.rowIs("0 may go on", z, 0);
    }

    private static void noneAtAll() {
        Checks.part("23: 0: none (the ROW is empty)");
        NotWhereYesterday x = Checks.wall(2, 0);
        x.best();
        Checks.is("of no posts", x.none(), 0);
        Checks.rowIs("of no posts", x);
        x.post(NONE, true, 1, 0);
        x.works(0);
        Checks.is("of one that can be filled", x.none(), 0);
        Checks.rowIs("of one that can be filled", x);
    }

    private static void noneOfPostsThatMustBeFilled() {
        Checks.part("23: sets of POSTS that MUST be filled");
        NotWhereYesterday x = Checks.wall(0, 9);
        Checks.is("nobody, but none must be", x.none(), 0);
        x.post(NONE, true, 1, 0);
        Checks.is("nobody", x.none(), 1);
        Checks.rowIs("nobody", x, 512, 0);
        NotWhereYesterday y = Checks.wall(0, 0);
        y.post(NONE, true, 1, 0);
        Checks.is("the first alone", y.none(), 1);
        Checks.rowIs("the first alone", y, 1, 0);
        x.person(0, 1);
        Checks.is("one for ten, of which one must be", x.none(), 0);
    }

    private static void noneFewestAndLeastBits() {
        Checks.part("23: the fewest; of as few the least bits");
        NotWhereYesterday x = new NotWhereYesterday();
        x.person(1, 1);
        x.person(2, 1);
        for (int craft : new int[] {0, 1, 0, 1}) {
            x.post(craft, true, 1, 0);
        }
        Checks.is("0 and 2 of one, 1 and 3 of one", x.none(), 2);
        Checks.rowIs("the least bits", x, 5, 1);
        Checks.told(x, "a1,0-0");
        Checks.is("the fewest: 1 alone", x.none(), 1);
        Checks.rowIs("the fewest: 1 alone", x, 2, 0);
    }

    private static void noneOfAsManyAsPosts() {
        Checks.part("23: which have more POSTS than there are PEOPLE: as many do");
        for (int n = 1; n <= 9; n++) {
            NotWhereYesterday x = Checks.wall(n, 0);
            for (int p = 0; p < n; p++) {
                x.post(NONE, true, 1, 0);
            }
            Checks.is(n + " of " + n, x.none(), 0);
            x.post(NONE, true, 1, 0);
            Checks.is(n + 1 + " of " + n, x.none(), n + 1);
            Checks.rowIs(n + 1 + " of " + n, x, (2 << n) - 1, (1 << n) - 1);
        }
    }

    private static void noneOfTen() {
        Checks.part("23: those PEOPLE (bits), who MAY and CAN be at one of them");
        NotWhereYesterday x = new NotWhereYesterday();
        for (int a = 0; a < 10; a++) {
            x.person(a < 5 ? 1 : 2, 9);
        }
        for (int p = 0; p < 10; p++) {
            x.post(p == 9 ? 2 : p < 4 ? 0 : 1, true, 1, 0);
        }
        Checks.is("the last, of nobody", x.none(), 1);
        Checks.rowIs("the last, of nobody", x, 512, 0);
        NotWhereYesterday y = new NotWhereYesterday();
        for (int a = 0; a < 10; a++) {
            y.person(a < 5 ? 1 : 2, 9);
        }
        for (int p = 0; p < 10; p++) {
            y.post(p < 4 ? 0 : 1, true, 1, 0);
        }
        Checks.is("six of five", y.none(), 6);
        Checks.rowIs("six of five", y, 1008, 992);
    }

    private static void canOfNoneSuch() {
        Checks.part("24: NONE: none such");
        NotWhereYesterday x = Checks.wall(1, 2);
        for (int post : new int[] {-1, 2, 9, 10, LOW, HIGH}) {
            Checks.is("post " + post, x.can(post), NONE);
        }
        Checks.is("the last", x.can(1), 1);
    }

    private static void canOfNobodyAndOfTen() {
        Checks.part("24: (bits), of nobody, of ten");
        Checks.is("of nobody", Checks.wall(0, 1).can(0), 0);
        NotWhereYesterday x = Checks.wall(10, 10);
        Checks.is("of ten", x.can(9), 1023);
        x.sheet(2, 10, 0, 1);
        x.day();
        Checks.told(x, "w1");
        Checks.is("not the last", x.can(9), 511);
        Checks.told(x, "a0,1-1");
        Checks.is("not the first", x.can(9), 1022);
    }

    private static void breakingPrices() {
        Checks.part("25: a price (0 .. 5000). NONE: another price");
        NotWhereYesterday x = Checks.wall(1, 0);
        x.post(NONE, true, 1, 0);
        Checks.told(x, "w1");
        Checks.dayOf(x, 0);
        for (int price : new int[] {-1, 5001, LOW, HIGH}) {
            Checks.is("price " + price, x.breaking(price), NONE);
        }
        int[] prices = {0, 1, 1009, 1010, 1011, 5000};
        int[] due = {1010, 1009, 1, 0, 0, 0};
        for (int i = 0; i < prices.length; i++) {
            Checks.is("price " + prices[i], x.breaking(prices[i]), due[i]);
            if (due[i] > 0) {
                Checks.rowIs("price " + prices[i], x, 1010, 1, 0);
            } else {
                Checks.rowIs("price " + prices[i], x, 0, 0, NONE);
            }
        }
    }

    private static void breakingOnceForOneAtAPost() {
        Checks.part("25: for each one at a POST where it MAY not be (once), and for each two NEIGHBOURS who MAY not");
        NotWhereYesterday x = walk(2, 2, "w1;x0-0;x1-1;b1", 0, 1);
        Checks.is("for nothing", x.breaking(0), 20);
        Checks.rowIs("for nothing", x, 20, 3, 0, 1);
        Checks.is("the other way round breaks it once", x.breaking(1), 19);
        Checks.rowIs("the other way round breaks it once", x, 20, 1, 1, 0);
        Checks.is("for 9", x.breaking(9), 11);
        Checks.is("for 11", x.breaking(11), 10);
        Checks.rowIs("for 11", x, 10, 0, NONE, 0);
        NotWhereYesterday y = walk(1, 1, "w1;x0-0", 0);
        Checks.is("by WHERE and by x once", y.breaking(3), 7);
        Checks.rowIs("by WHERE and by x once", y, 10, 1, 0);
        NotWhereYesterday z = walk(2, 2, "b9", 0, 1);
        Checks.dayOf(z, 1, 0);
        Checks.is("two who met twice once", z.breaking(3), 17);
        Checks.rowIs("two who met twice once", z, 20, 1, 0, 1);
    }

    private static void breakingOfThoseWhoCan() {
        Checks.part("25: of those who CAN and are not away");
        NotWhereYesterday x = new NotWhereYesterday();
        x.person(0, 9);
        x.person(1, 9);
        x.post(0, true, 1, 0);
        Checks.told(x, "a1,0-0");
        Checks.is("who can't, who is away", x.breaking(0), 0);
        Checks.rowIs("who can't, who is away", x, 0, 0, NONE);
        Checks.is("of nobody", Checks.wall(0, 1).breaking(0), 0);
        NotWhereYesterday y = new NotWhereYesterday();
        Checks.is("of no posts", y.breaking(5000), 0);
        Checks.rowIs("of no posts", y, 0, 0);
    }

    private static void breakingOfEqualOnesTheLeastRow() {
        Checks.part("25: of equal ones the least row");
        NotWhereYesterday x = walk(2, 1, "w1;a1,1-1", 0);
        Checks.is("for 10 NONE is as much", x.breaking(10), 0);
        Checks.rowIs("for 10 NONE is as much", x, 0, 0, NONE);
        Checks.is("for 9 it is not", x.breaking(9), 1);
        Checks.rowIs("for 9 it is not", x, 10, 1, 0);
        Checks.told(x, "w1");
        Checks.is("for 0 the first, though it breaks", x.breaking(0), 10);
        Checks.rowIs("for 0 the first, though it breaks", x, 10, 1, 0);
        Checks.is("for 1 the other", x.breaking(1), 10);
        Checks.rowIs("for 1 the other", x, 10, 0, 1);
        x.day();
        Checks.told(x, "w1;b1;a0,2-2;a1,2-2");
        Checks.is("empty as yesterday", x.breaking(1), 0);
        Checks.rowIs("empty as yesterday breaks nothing", x, 0, 0, NONE);
    }

    private static void breakingOfTen() {
        Checks.part("25: how often it is broken: ten and nine");
        NotWhereYesterday x = new NotWhereYesterday();
        for (int i = 0; i < 10; i++) {
            x.person(1 << i % 6, 9);
            x.post(i % 6, true, 1, 0);
        }
        Checks.told(x, "w1;b1;a6,1-1;a7,1-1;a8,1-1;a9,1-1");
        x.sheet(2, 10, 0, 1);
        x.day();
        Checks.is("six who can alone, and are not away", x.breaking(0), 6060);
        // 4 and 5 are where they were; 4 5, 0 1, 1 2, 2 3 met
        Checks.rowIs("six of ten", x, 6060, 6, NONE, NONE, NONE, NONE, 4, 5, 0, 1, 2, 3);
        NotWhereYesterday y = Checks.wall(10, 10);
        y.sheet(2, 10, 0, 1);
        y.day();
        Checks.told(y, "w1;b1");
        Checks.is("all for nothing", y.breaking(0), 100);
        Checks.rowIs("all for nothing", y, 100, 19, 0, 1, 2, 3, 4, 5, 6, 7, 8, 9);
    }

    private static void fewAtLeast0() {
        Checks.part("26: how many (0 at least); the ROW: who CAN (bits)");
        NotWhereYesterday x = Checks.wall(10, 1);
        for (int where = 0; where <= 9; where++) {
            Checks.told(x, "w" + where);
            Checks.is("ten for w" + where, x.few(0), 0);
            Checks.rowIs("ten", x, 1023);
        }
    }

    private static void fewOneIfFree() {
        Checks.part("26: (one is enough, if it is FREE)");
        NotWhereYesterday x = new NotWhereYesterday();
        x.post(0, true, 1, 0);
        Checks.told(x, "w9;f0");
        Checks.is("nobody", x.few(0), 1);
        Checks.rowIs("nobody", x, 0);
        x.person(0, 1);
        Checks.is("one who can't", x.few(0), 1);
        x.person(1, 1);
        Checks.is("one", x.few(0), 0);
        Checks.rowIs("one", x, 2);
        x.person(1, 1);
        Checks.is("two", x.few(0), 0);
        Checks.told(x, "w9;f1");
        Checks.is("another one is free", x.few(0), 8);
    }

    private static void fewOneMoreThanWhere() {
        Checks.part("26: (else it takes one more than WHERE)");
        for (int where = 0; where <= 9; where++) {
            NotWhereYesterday x = Checks.wall(0, 1);
            Checks.told(x, "w" + where + ";b9;x0-0;a0,0-99");
            for (int people = 0; people <= 10; people++) {
                Checks.is(people + " for w" + where, x.few(0), Math.max(0, where + 1 - people));
                x.person(0, 1);
            }
        }
    }

    private static void fewOfNoneSuch() {
        Checks.part("26: NONE: none such");
        NotWhereYesterday x = Checks.wall(1, 2);
        for (int post : new int[] {-1, 2, 9, 10, LOW, HIGH}) {
            Checks.is("post " + post, x.few(post), NONE);
        }
        Checks.is("the last", x.few(1), 0);
    }

    private static void tillByAnother() {
        Checks.part("27: by another one than the last time (what 0)");
        for (int days = 1; days <= 9; days++) {
            for (int loss = 0; loss < 10; loss++) {
                NotWhereYesterday x = Checks.wall(1, 0);
                x.post(NONE, false, days, loss);
                int more = 10 * days - 10;
                int due = 1 + (more + 9 - loss) / (10 - loss);
                Checks.is("nobody did it: " + days + " days, loss " + loss, x.till(0, 0), due);
                if (days > 1) {
                    Checks.dayOf(x, 0);
                    Checks.is("one did", x.till(0, 0), due - 1);
                }
            }
        }
    }

    private static void tillByTheSame() {
        Checks.part("27: always by who did it the last time (1; anybody, if nobody did)");
        for (int days = 1; days <= 9; days++) {
            NotWhereYesterday x = Checks.wall(2, 0);
            x.post(NONE, false, days, 10);
            Checks.is("nobody did", x.till(0, 1), days);
            for (int day = 0; day < days; day++) {
                Checks.dayOf(x, 1);
                Checks.is("one did", x.till(0, 1), day == days - 1 ? days : days - 1 - day);
            }
        }
    }

    private static void tillNever() {
        Checks.part("27: -2: never");
        NotWhereYesterday x = Checks.wall(2, 0);
        x.post(NONE, false, 1, 10);
        x.post(NONE, false, 2, 10);
        x.post(NONE, false, 9, 9);
        Checks.is("the first day brings ten", x.till(0, 0), 1);
        Checks.is("and no day more", x.till(1, 0), -2);
        Checks.is("eighty days of one part", x.till(2, 0), 81);
        Checks.dayOf(x, 0, 1);
        Checks.is("ten of twenty", x.till(1, 0), -2);
        Checks.is("always by one", x.till(1, 1), 1);
        Checks.is("a new one, of who did it the last time", x.till(0, 0), -2);
    }

    private static void tillOthers() {
        Checks.part("27: NONE: others");
        NotWhereYesterday x = Checks.wall(1, 2);
        for (int post : new int[] {-1, 2, 9, 10, LOW, HIGH}) {
            Checks.is("post " + post, x.till(post, 0), NONE);
            Checks.is("post " + post, x.till(post, 1), NONE);
        }
        for (int what : new int[] {-1, 2, LOW, HIGH}) {
            Checks.is("what " + what, x.till(0, what), NONE);
        }
        Checks.is("the last", x.till(1, 1), 1);
        Checks.is("by nobody at all", Checks.wall(0, 1).till(0, 1), 1);
    }
}
