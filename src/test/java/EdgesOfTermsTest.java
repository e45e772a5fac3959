/** "What it is" and "Terms": each sentence that names an edge has a test of its own here. */
public final class EdgesOfTermsTest {
    private static final int NONE = NotWhereYesterday.NONE;

    public static void main(String[] args) {
        usedForAtMost512Calls();
        manySearchesIn512Calls();
        peopleAtMostTen();
        craftsFrom0To63();
        goesFrom1To9();
        postsAtMostTen();
        craftOfAPostFrom0To5OrNone();
        mustOrNot();
        longFrom1To9();
        lossFrom0To10();
        noneAtTwo();
        neighboursAreBesideOneAnother();
        wallDoesNotGoRound();
        daysAtMostSixty();
        draftAtFirstAllNone();
        draftBehindEachDayAllNone();
        ruleAtFirstEmpty();
        whereAndBesideAtFirst0();
        whereOfEachDigit();
        besideOfEachDigit();
        lastLineCounts();
        sameLineTwice();
        freeOfEachPostThereOrNot();
        freeIsOfWhereAlone();
        notToGoFromEachPostToEach();
        notToGoOnTheDayAheadAlone();
        awayFromTo();
        awayOfEachThereOrNot();
        daysAheadOfDay0DoNotCount();
        oneCanAPostWithoutCraft();
        emptyFillingIsGood();
        worthOfNoneAndOfTen();
        firstTimeNothingIsLost();
        sameOneLosesNothing();
        workIsDoneFromTenTimesLongOn();
        partsAboveAreGone();
        whoCannotDoesNoWork();
        goesOfEachCraftByItself();
        craftFromTheNextDayOn();
        rowAtFirstEmpty();
        callsThatTellNoRowLeaveIt();
        rowsComparedFromTheFirstNumberOn();
        Checks.end();
    }

    /** Object 1 has made nearly 512 calls, object 2 none but those that matter. */
    private static void usedForAtMost512Calls() {
        Checks.part("an object is used for at most 512 calls");
        NotWhereYesterday x = Checks.wall(10, 10);
        for (int i = 0; i < 480; i++) {
            switch (i % 6) {
                case 0:
                    Checks.is("best", x.best(), 100);
                    break;
                case 1:
                    Checks.is("worth", x.worth(), 0);
                    break;
                case 2:
                    Checks.is("price", x.price(i % 2), 9);
                    break;
                case 3:
                    Checks.is("breaking", x.breaking(3), 100);
                    break;
                case 4:
                    Checks.is("sign", x.sign('w' << 24 | '1' << 16), 4);
                    break;
                default:
                    Checks.yes("end", x.end(0));
            }
        }
        Checks.is("go", x.go(0, 10), 0);
        Checks.is("the 502nd", x.best(), 100);
        for (int p = 0; p < 9; p++) {
            Checks.is("row(" + p + ")", x.row(p), p);
        }
        Checks.is("the 512th", x.met(9), 1 << 8 | 1);
    }

    /** The class numbers its searches 1 .. 8191 and begins anew: what it knew of the first must be forgotten then. */
    private static void manySearchesIn512Calls() {
        Checks.part("at most 512 calls, many searches");
        NotWhereYesterday x = Checks.wall(6, 5);
        Checks.is("all may", x.best(), 50);
        Checks.told(x, "a0,0-99;a1,0-99;a2,0-99;a3,0-99;a4,0-99;a5,0-99");
        x.keep(0);
        for (int i = 0; i < 30; i++) {
            Checks.is("all are away", x.best(), 0);
        }
        for (int i = 0; i < 136; i++) {
            x.again(0);
            Checks.is("all are away", x.go(3, 60), 0);
        }
        x.again(0);
        Checks.dayOf(x, 0, 1, 2, 3, 4);
        Checks.told(x, "x0-4;x1-4;x2-4;x3-4;x4-4;a5,1-1");
        for (int i = 0; i < 30; i++) {
            Checks.is("nobody may be at the last post", x.best(), 40);
            Checks.is("post 4", x.row(4), NONE);
        }
    }

    private static void peopleAtMostTen() {
        Checks.part("PEOPLE 0 .. (at most 10)");
        NotWhereYesterday x = Checks.wall(10, 3);
        Checks.told(x, "w1;b1;a8,1-1");
        Checks.dayOf(x, 9, 0);
        Checks.is("the last one was there", x.may(9, 0), 0);
        Checks.is("and beside the first", x.beside(9, 0), 0);
        Checks.is("the last but one is away", x.may(8, 0), 0);
        Checks.is("who may", x.can(0), 1023 - 512 - 256);
        Checks.is("whom the last one met", x.met(9), 1);
        Checks.is("whom the first one met", x.met(0), 512);
        Checks.is("the eleventh", x.person(63, 1), NONE);
        Checks.is("ten", x.count(0), 10);
    }

    private static void craftsFrom0To63() {
        Checks.part("CRAFTS (bits 0 .. 63)");
        NotWhereYesterday x = new NotWhereYesterday();
        Checks.is("none of them", x.person(0, 1), 0);
        Checks.is("all of them", x.person(63, 1), 1);
        for (int craft = 0; craft < 6; craft++) {
            Checks.is("one of them", x.person(1 << craft, 1), 2 + craft);
            x.post(craft, false, 1, 0);
        }
        for (int craft = 0; craft < 6; craft++) {
            Checks.is("who can " + craft, x.can(craft), 2 | 4 << craft);
        }
    }

    private static void goesFrom1To9() {
        Checks.part("GOES 1 .. 9");
        for (int goes = 1; goes <= 9; goes++) {
            NotWhereYesterday x = new NotWhereYesterday();
            Checks.is("one of " + goes, x.person(0, goes), 0);
            x.post(0, false, 1, 0);
            for (int day = 1; day < goes; day++) {
                x.put(0, 0);
                x.day();
                Checks.is("goes", x.crafts(0, 0), day);
                Checks.is("no craft yet", x.crafts(0, NONE), 0);
            }
            x.put(0, 0);
            x.day();
            Checks.is("they begin anew", x.crafts(0, 0), 0);
            Checks.is("the craft behind " + goes, x.crafts(0, NONE), 1);
        }
    }

    private static void postsAtMostTen() {
        Checks.part("POSTS 0 .. (at most 10)");
        NotWhereYesterday x = Checks.wall(2, 10);
        Checks.is("the last one", x.put(9, 0), NONE);
        Checks.is("the last but one", x.put(8, 1), NONE);
        Checks.is("filled", x.count(5), 2);
        x.day();
        Checks.is("who was at the last one", x.who(0, 9), 0);
        Checks.is("beside", x.met(0), 2);
        Checks.is("works", x.works(9), 1);
        Checks.is("where it was", x.chairs(0), 512);
        Checks.is("the eleventh", x.post(NONE, true, 1, 0), NONE);
        Checks.is("ten", x.count(1), 10);
    }

    private static void craftOfAPostFrom0To5OrNone() {
        Checks.part("a CRAFT 0 .. 5 or none");
        for (int craft = 0; craft < 6; craft++) {
            NotWhereYesterday x = new NotWhereYesterday();
            x.person(1 << craft, 1);
            x.person(63 & ~(1 << craft), 1);
            Checks.is("craft " + craft, x.post(craft, false, 1, 0), 0);
            Checks.is("who can", x.can(0), 1);
        }
        NotWhereYesterday x = new NotWhereYesterday();
        x.person(0, 1);
        Checks.is("none", x.post(NONE, false, 1, 0), 0);
        Checks.is("who can", x.can(0), 1);
    }

    private static void mustOrNot() {
        Checks.part("whether it MUST be filled; 1000 for each POST that MUST be filled and is, 10 for each that is");
        NotWhereYesterday x = new NotWhereYesterday();
        x.person(0, 1);
        x.post(NONE, true, 1, 0);
        x.post(NONE, false, 1, 0);
        x.good();
        Checks.rowIs("neither", x, 0, 0, 0);
        x.put(0, 0);
        x.good();
        Checks.rowIs("which must", x, 1010, 0, 0);
        Checks.draft(x, NONE, 0);
        x.good();
        Checks.rowIs("which need not", x, 10, 0, 0);
    }

    private static void longFrom1To9() {
        Checks.part("LONG 1 .. 9 days");
        for (int days = 1; days <= 9; days++) {
            NotWhereYesterday x = new NotWhereYesterday();
            x.person(0, 1);
            Checks.is("of " + days, x.post(NONE, false, days, 10), 0);
            Checks.is("one day less", x.go(0, days - 1), 0);
            Checks.is("not done", x.works(0), 0);
            Checks.is("one day more", x.go(0, 1), 0);
            Checks.is("done", x.works(0), 1);
        }
    }

    private static void lossFrom0To10() {
        Checks.part("LOSS 0 .. 10 parts");
        for (int loss = 0; loss <= 10; loss++) {
            NotWhereYesterday x = Checks.wall(2, 0);
            Checks.is("of " + loss, x.post(NONE, false, 9, loss), 0);
            Checks.dayOf(x, 0);
            Checks.dayOf(x, 1);
            x.works(0);
            Checks.rowIs("handed on", x, 20 - loss, 1);
        }
    }

    private static void noneAtTwo() {
        Checks.part("A FILLING: none at two");
        NotWhereYesterday x = Checks.wall(1, 3);
        Checks.is("of one there is one", x.fill(), 10);
        Checks.is("at another", x.put(0, 0), -2);
        Checks.is("a sheet of one", x.sheet(2, 3, 0, 0), 1);
        Checks.is("at another", x.put(1, 0), -2);
        Checks.is("breaking does not, either", x.breaking(0), 10);
    }

    private static void neighboursAreBesideOneAnother() {
        Checks.part("NEIGHBOURS are two at POSTS of which one is beside the other");
        NotWhereYesterday x = Checks.wall(4, 6);
        Checks.dayOf(x, 0, 1, NONE, 2, NONE, 3);
        Checks.is("0", x.met(0), 2);
        Checks.is("1", x.met(1), 1);
        Checks.is("2", x.met(2), 0);
        Checks.is("3", x.met(3), 0);
        Checks.dayOf(x, NONE, NONE, 2, 0, 1);
        Checks.is("at both sides", x.met(0), 6);
    }

    private static void wallDoesNotGoRound() {
        Checks.part("one beside the next one: the last is not beside the first");
        for (int posts = 3; posts <= 10; posts++) {
            NotWhereYesterday x = Checks.wall(2, posts);
            Checks.told(x, "b1");
            x.put(0, 0);
            x.put(posts - 1, 1);
            x.day();
            Checks.is("met", x.met(0), 0);
            Checks.is("may", x.beside(0, 1), 1);
            x.put(0, 0);
            x.put(1, 1);
            x.day();
            x.put(posts - 1, 0);
            x.put(0, 1);
            Checks.is("of those who may not", x.good(), 1);
        }
    }

    private static void daysAtMostSixty() {
        Checks.part("DAYS 0 .. (at most 60)");
        NotWhereYesterday x = Checks.wall(2, 1);
        Checks.is("no day yet", x.count(2), 0);
        Checks.is("59", x.go(0, 59), 0);
        x.put(0, 1);
        Checks.is("the last one", x.day(), 59);
        Checks.is("who was there", x.who(59, 0), 1);
        Checks.is("sixty", x.count(2), 60);
        Checks.told(x, "w1;a0,60-60");
        Checks.is("the day behind them has a draft, too", x.put(0, 0), NONE);
        Checks.is("not good", x.good(), 0);
        Checks.rowIs("away", x, 10, 1);
        Checks.is("where it was on the last day", x.may(1, 0), 0);
        Checks.is("nobody", x.best(), 0);
        Checks.is("the 61st", x.day(), NONE);
        Checks.is("the draft stays", x.who(60, 0), 0);
        Checks.is("sixty", x.count(2), 60);
    }

    private static void draftAtFirstAllNone() {
        Checks.part("THE DRAFT is at first all NONE");
        NotWhereYesterday x = Checks.wall(1, 10);
        for (int p = 0; p < 10; p++) {
            Checks.is("post " + p, x.who(0, p), NONE);
        }
        Checks.is("filled", x.count(5), 0);
    }

    private static void draftBehindEachDayAllNone() {
        Checks.part("THE DRAFT is behind each day all NONE");
        NotWhereYesterday x = Checks.wall(10, 10);
        for (int kind = 0; kind <= 3; kind++) {
            x.fill();
            x.day();
            Checks.is("behind day()", x.count(5), 0);
            x.fill();
            x.go(kind, 3);
            Checks.is("behind go()", x.count(5), 0);
            for (int p = 0; p < 10; p++) {
                Checks.is("post " + p, x.who(x.count(2), p), NONE);
            }
        }
        NotWhereYesterday y = Checks.wall(1, 1);
        Checks.dayOf(y, 0);
        y.put(0, 0);
        y.post(NONE, false, 1, 0);
        Checks.is("a post told later", y.who(1, 1), NONE);
        Checks.is("on a day that went by", y.who(0, 1), NONE);
        Checks.is("the other stays", y.who(1, 0), 0);
    }

    private static void ruleAtFirstEmpty() {
        Checks.part("THE RULE is at first empty");
        NotWhereYesterday x = Checks.wall(2, 2);
        for (int day = 0; day < 60; day++) {
            for (int p = 0; p < 2; p++) {
                Checks.is("all may", x.can(p), 3);
            }
            Checks.is("stays where it was, beside whom it was", x.go(3, 1), 0);
        }
        Checks.is("never broken", x.broken(), 0);
    }

    private static void whereAndBesideAtFirst0() {
        Checks.part("WHERE, BESIDE: at first 0");
        NotWhereYesterday x = Checks.wall(2, 2);
        Checks.is("WHERE", x.count(3), 0);
        Checks.is("BESIDE", x.count(4), 0);
        Checks.told(x, "w2");
        Checks.is("BESIDE of a rule without", x.count(4), 0);
        Checks.told(x, "b3");
        Checks.is("WHERE of a rule without", x.count(3), 0);
    }

    private static void whereOfEachDigit() {
        Checks.part("w, a digit; was not there on any of the WHERE DAYS ahead");
        for (int n = 0; n <= 9; n++) {
            NotWhereYesterday x = Checks.wall(2, 1);
            Checks.is("w" + n, Checks.told(x, "w" + n), 1);
            Checks.is("WHERE", x.count(3), n);
            Checks.dayOf(x, 1);
            Checks.dayOf(x, 0);
            for (int behind = 1; behind <= 11; behind++) {
                Checks.is(behind + " days behind it, w" + n, x.may(0, 0), behind > n ? 1 : 0);
                x.day();
            }
        }
    }

    private static void besideOfEachDigit() {
        Checks.part("b, a digit; were not NEIGHBOURS on any of the BESIDE DAYS ahead");
        for (int n = 0; n <= 9; n++) {
            NotWhereYesterday x = Checks.wall(2, 2);
            Checks.is("b" + n, Checks.told(x, "b" + n), 1);
            Checks.is("BESIDE", x.count(4), n);
            Checks.dayOf(x, 1);
            Checks.dayOf(x, 0, 1);
            for (int behind = 1; behind <= 11; behind++) {
                Checks.is(behind + " days behind it, b" + n, x.beside(1, 0), behind > n ? 1 : 0);
                x.day();
            }
        }
    }

    private static void lastLineCounts() {
        Checks.part("of w, b the last LINE counts");
        NotWhereYesterday x = Checks.wall(1, 1);
        Checks.is("lines", Checks.told(x, "w1;b8;w9;b0;w3"), 5);
        Checks.is("WHERE", x.count(3), 3);
        Checks.is("BESIDE", x.count(4), 0);
        Checks.told(x, "w9;w0");
        Checks.is("WHERE", x.count(3), 0);
        Checks.told(x, "a0,1-1;x0-0;f0;a0,3-4");
        Checks.dayOf(x, 0);
        Checks.is("of the others all count", x.may(0, 0), 0);
        x.day();
        Checks.is("two days", x.may(0, 0), 1);
        x.day();
        Checks.is("three days", x.may(0, 0), 0);
    }

    private static void sameLineTwice() {
        Checks.part("THE RULE: LINES: the same one twice is as once");
        NotWhereYesterday x = Checks.wall(2, 2);
        Checks.is("lines", Checks.told(x, "w1;w1;f0;f0;x1-0;x1-0;a1,1-2;a1,1-3;a1,2-2"), 9);
        Checks.dayOf(x, 0, 1);
        Checks.is("free", x.may(0, 0), 1);
        Checks.is("not free", x.may(0, 1), 1);
        Checks.is("away", x.may(1, 1), 0);
        x.day();
        Checks.dayOf(x, NONE, 0);
        Checks.is("not to go", x.may(0, 0), 0);
        Checks.is("away to the last of them", x.may(1, 0), 0);
        x.day();
        Checks.is("and no more", x.may(1, 0), 1);
    }

    private static void freeOfEachPostThereOrNot() {
        Checks.part("f, a POST, there or not");
        for (int post = 0; post < 10; post++) {
            NotWhereYesterday x = Checks.wall(10, 1);
            Checks.is("f" + post, Checks.told(x, "w1;f" + post), 2);
            for (int p = 1; p < 10; p++) {
                x.post(NONE, false, 1, 0);
            }
            Checks.dayOf(x, 0, 1, 2, 3, 4, 5, 6, 7, 8, 9);
            for (int p = 0; p < 10; p++) {
                Checks.is("post " + p, x.may(p, p), p == post ? 1 : 0);
            }
        }
    }

    private static void freeIsOfWhereAlone() {
        Checks.part("was not there on any of the WHERE DAYS ahead, or it is FREE");
        NotWhereYesterday x = Checks.wall(2, 2);
        Checks.told(x, "w9;b1;f0;f1;x0-1;a1,1-1");
        Checks.dayOf(x, 0, 1);
        Checks.is("where it was", x.may(0, 0), 1);
        Checks.is("from the one to the other", x.may(0, 1), 0);
        Checks.is("away", x.may(1, 1), 0);
        Checks.is("beside", x.beside(0, 1), 0);
    }

    private static void notToGoFromEachPostToEach() {
        Checks.part("x, a POST, -, a POST, there or not");
        for (int from = 0; from < 10; from++) {
            int to = (from * 7 + 9) % 10;
            NotWhereYesterday x = Checks.wall(1, 1);
            Checks.is("x", Checks.told(x, "x" + from + "-" + to), 1);
            for (int p = 1; p < 10; p++) {
                x.post(NONE, false, 1, 0);
            }
            for (int p = 0; p < 10; p++) {
                x.put(p, 0);
                x.day();
                for (int q = 0; q < 10; q++) {
                    Checks.is("from " + p + " to " + q, x.may(0, q), p == from && q == to ? 0 : 1);
                }
            }
        }
    }

    private static void notToGoOnTheDayAheadAlone() {
        Checks.part("was not on the DAY ahead at a POST from which it is not to go to this one");
        NotWhereYesterday x = Checks.wall(1, 2);
        Checks.told(x, "x0-1;x1-1;w0");
        Checks.is("on day 0", x.may(0, 1), 1);
        Checks.dayOf(x, 0);
        Checks.is("the day ahead", x.may(0, 1), 0);
        x.day();
        Checks.is("two days ahead", x.may(0, 1), 1);
        Checks.dayOf(x, NONE, 0);
        Checks.is("from a post to itself", x.may(0, 1), 0);
    }

    private static void awayFromTo() {
        Checks.part("a, one of PEOPLE, a comma, a DAY, -, a DAY (not below it: away from .. to)");
        NotWhereYesterday x = Checks.wall(1, 1);
        Checks.told(x, "a0,0-0;a0,2-3;a0,09-10;a0,59-60");
        for (int day = 0; day <= 60; day++) {
            boolean away = day == 0 || day == 2 || day == 3 || day == 9 || day == 10 || day >= 59;
            Checks.is("day " + day, x.may(0, 0), away ? 0 : 1);
            x.day();
        }
        Checks.is("a DAY behind all", Checks.told(x, "a0,61-99"), 1);
        Checks.is("not on day 60", x.may(0, 0), 1);
        Checks.is("from a DAY to behind all", Checks.told(x, "a0,60-99"), 1);
        Checks.is("on day 60", x.may(0, 0), 0);
    }

    private static void awayOfEachThereOrNot() {
        Checks.part("one of PEOPLE of one digit, there or not");
        for (int one = 0; one < 10; one++) {
            NotWhereYesterday x = Checks.wall(1, 1);
            Checks.is("a", Checks.told(x, "a" + one + ",0-0"), 1);
            for (int a = 1; a < 10; a++) {
                x.person(63, 1);
            }
            for (int a = 0; a < 10; a++) {
                Checks.is("one " + a, x.may(a, 0), a == one ? 0 : 1);
            }
        }
    }

    private static void daysAheadOfDay0DoNotCount() {
        Checks.part("those before DAY 0 do not count");
        NotWhereYesterday x = Checks.wall(3, 3);
        Checks.told(x, "w9;b9;x0-0;x1-1;x2-2");
        Checks.is("on day 0", x.best(), 30);
        Checks.rowIs("on day 0", x, 0, 1, 2);
        Checks.is("nothing is written", x.written(), 0);
        Checks.dayOf(x, 0, 1, 2);
        Checks.is("on day 1 as many as went by", x.may(0, 0), 0);
        Checks.is("and no more", x.may(0, 1), 1);
        Checks.is("written of one day", x.written(), 3);
        Checks.rowIs("written of one day", x, 2);
    }

    private static void oneCanAPostWithoutCraft() {
        Checks.part("One CAN do a POST, if it has no CRAFT, or one has it");
        NotWhereYesterday x = new NotWhereYesterday();
        x.person(0, 9);
        x.person(32, 9);
        x.post(NONE, false, 1, 0);
        x.post(5, false, 1, 0);
        Checks.is("without", x.can(0), 3);
        Checks.is("with it", x.can(1), 2);
    }

    private static void emptyFillingIsGood() {
        Checks.part("A FILLING is GOOD, if all MAY and CAN be where they are: an empty one is");
        NotWhereYesterday x = Checks.wall(1, 2);
        x.post(0, true, 1, 0);
        Checks.told(x, "w9;b9;a0,0-99");
        Checks.is("empty, though one must be filled", x.good(), 1);
        Checks.is("of no posts", new NotWhereYesterday().good(), 1);
    }

    private static void worthOfNoneAndOfTen() {
        Checks.part("Its WORTH: of none, of ten");
        NotWhereYesterday x = new NotWhereYesterday();
        for (int i = 0; i < 10; i++) {
            x.person(0, 1);
            x.post(NONE, true, 1, 0);
        }
        x.good();
        Checks.is("of none", x.row(0), 0);
        Checks.is("of ten", x.fill(), 10100);
        x.good();
        Checks.rowIs("of ten", x, 10100, 0, 0, 0, 0, 0, 0, 0, 0, 0, 0);
    }

    private static void firstTimeNothingIsLost() {
        Checks.part("less LOSS, if another one than now did it the last time (the first time nothing is lost)");
        NotWhereYesterday x = Checks.wall(2, 0);
        x.post(NONE, false, 9, 10);
        x.day();
        Checks.dayOf(x, 1);
        x.works(0);
        Checks.rowIs("the first time", x, 10, 1);
        x.day();
        x.day();
        Checks.dayOf(x, 0);
        x.works(0);
        Checks.rowIs("the last time is not yesterday alone", x, 10, 0);
    }

    private static void sameOneLosesNothing() {
        Checks.part("another one than now");
        NotWhereYesterday x = Checks.wall(2, 0);
        x.post(NONE, false, 9, 10);
        x.post(NONE, false, 9, 10);
        Checks.dayOf(x, 0, 1);
        Checks.dayOf(x, NONE, 0);
        Checks.dayOf(x, 0, 1);
        x.works(0);
        Checks.rowIs("the same one behind a day without", x, 20, 0);
        x.works(1);
        Checks.rowIs("handed to and fro", x, 10, 1);
    }

    private static void workIsDoneFromTenTimesLongOn() {
        Checks.part("from 10 times LONG on one WORK is done");
        NotWhereYesterday x = Checks.wall(2, 0);
        x.post(NONE, false, 2, 1);
        x.post(NONE, false, 2, 0);
        Checks.dayOf(x, 0, 1);
        Checks.dayOf(x, 1, 0);
        Checks.is("19 of 20", x.works(0), 0);
        Checks.rowIs("19 of 20", x, 19, 1);
        Checks.is("20 of 20", x.works(1), 1);
        Checks.rowIs("20 of 20", x, 0, 0);
    }

    private static void partsAboveAreGone() {
        Checks.part("its parts are 0");
        NotWhereYesterday x = Checks.wall(2, 0);
        x.post(NONE, false, 2, 1);
        Checks.dayOf(x, 0);
        Checks.dayOf(x, 1);
        Checks.dayOf(x, 1);
        Checks.is("29 of 20 is one", x.works(0), 1);
        Checks.rowIs("nine are gone", x, 0, 1);
    }

    private static void whoCannotDoesNoWork() {
        Checks.part("POST by POST that is filled by one who CAN");
        NotWhereYesterday x = new NotWhereYesterday();
        x.person(0, 9);
        x.person(1, 9);
        x.post(0, true, 9, 5);
        Checks.dayOf(x, 0);
        Checks.is("no work", x.works(0), 0);
        Checks.rowIs("nor was it the last to do it", x, 0, NONE);
        Checks.dayOf(x, 1);
        Checks.dayOf(x, 0);
        Checks.dayOf(x, 1);
        x.works(0);
        Checks.rowIs("nothing is lost by one who learns", x, 20, 1);
    }

    private static void goesOfEachCraftByItself() {
        Checks.part("a GO more in it (of each CRAFT by itself)");
        NotWhereYesterday x = new NotWhereYesterday();
        x.person(0, 2);
        x.person(0, 2);
        for (int craft = 0; craft < 6; craft++) {
            x.post(craft, false, 1, 0);
        }
        for (int craft = 0; craft < 6; craft++) {
            x.put(craft, 0);
            x.put((craft + 1) % 6, 1);
            x.day();
            Checks.is("no craft of one go", x.crafts(0, NONE), 0);
            Checks.is("a go in " + craft, x.crafts(0, craft), 1);
            Checks.is("the other one's", x.crafts(1, (craft + 1) % 6), 1);
        }
        x.put(5, 0);
        x.day();
        Checks.is("the last of them", x.crafts(0, NONE), 32);
        Checks.is("begins anew", x.crafts(0, 5), 0);
        Checks.is("the others stay", x.crafts(0, 4), 1);
        Checks.is("the other one's stay", x.crafts(1, 5), 1);
    }

    private static void craftFromTheNextDayOn() {
        Checks.part("with GOES of them they have it from the next DAY on");
        NotWhereYesterday x = new NotWhereYesterday();
        x.person(0, 1);
        x.post(2, true, 9, 0);
        x.put(0, 0);
        Checks.is("not today", x.good(), 0);
        x.day();
        x.works(0);
        Checks.rowIs("no work on that day", x, 0, NONE);
        x.put(0, 0);
        Checks.is("on the next one", x.good(), 1);
        x.day();
        x.works(0);
        Checks.rowIs("on the next one", x, 10, 0);
        Checks.is("no go of one who has it", x.crafts(0, 2), 0);
    }

    private static void rowAtFirstEmpty() {
        Checks.part("ROW: numbers told last by a call that says so");
        NotWhereYesterday x = Checks.wall(2, 2);
        x.fill();
        x.day();
        x.lasts();
        x.free(0);
        Checks.rowIs("no call has told any", x);
        x.best();
        x.may(0, 0);
        x.unlike();
        Checks.rowIs("told last", x, 0, 1);
        x.works(0);
        Checks.rowIs("told then", x, 0, 0);
    }

    private static void callsThatTellNoRowLeaveIt() {
        Checks.part("ROW: numbers told last by a call that says so: those that change DAYS, THE DRAFT, THE TEXT do not");
        NotWhereYesterday x = Checks.wall(3, 3);
        Checks.told(x, "w1;b1");
        Checks.dayOf(x, 0, 1, 2);
        Checks.dayOf(x, 0, 1, 2);
        Checks.is("told", x.broken(), 5);
        Checks.tell(x, "b2;w2");
        int before = x.count(7);
        x.put(0, 1);
        Checks.rowIs("put", x, 0, 3, 0, 2);
        x.sheet(2, 3, 0, 1);
        Checks.rowIs("sheet", x, 0, 3, 0, 2);
        x.keep(0);
        Checks.rowIs("keep", x, 0, 3, 0, 2);
        x.day();
        Checks.rowIs("day", x, 0, 3, 0, 2);
        x.fill();
        Checks.rowIs("fill", x, 0, 3, 0, 2);
        for (int kind = 0; kind <= 3; kind++) {
            x.go(kind, 1);
            Checks.rowIs("go", x, 0, 3, 0, 2);
        }
        x.again(0);
        Checks.rowIs("again", x, 0, 3, 0, 2);
        x.person(0, 1);
        Checks.rowIs("person", x, 0, 3, 0, 2);
        x.post(NONE, true, 1, 0);
        Checks.rowIs("post", x, 0, 3, 0, 2);
        Checks.is("THE TEXT stays by all of them", x.count(7), before);
        x.sign(0);
        x.end(before);
        Checks.rowIs("sign, end", x, 0, 3, 0, 2);
        Checks.is("rule", x.rule(), 2);
        Checks.rowIs("rule", x, 0, 3, 0, 2);
    }

    private static void rowsComparedFromTheFirstNumberOn() {
        Checks.part("Rows are compared from the first number on");
        NotWhereYesterday x = Checks.wall(2, 3);
        Checks.is("of equal ones the least row", x.best(), 20);
        Checks.rowIs("the first number counts ahead of all others", x, NONE, 0, 1);
    }
}
