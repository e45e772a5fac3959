/** Promises 45 to 48: each sentence that names an edge has a test of its own here. */
public final class EdgesOfKeptTest {
    private static final int NONE = NotWhereYesterday.NONE;
    private static final int LOW = Integer.MIN_VALUE;
    private static final int HIGH = Integer.MAX_VALUE;

    public static void main(String[] args) {
        keepUnderANumber0To2();
        keepRefusesOthers();
        keepAnew();
        keepOfAnEmptyOne();
        keepOfSixtyDays();
        keepsWhatIsNamedAlone();
        againRefusesNothingKept();
        againRefusesOthers();
        againRefusesBehindAPersonOrAPost();
        againBehindRefusedOnes();
        againAsOftenAsAsked();
        countOfEach();
        countOfAnotherWhat();
        countAtItsMost();
        rowOfNoneSuch();
        rowAtItsMost();
        Checks.end();
    }

    private static void keepUnderANumber0To2() {
        Checks.part("45: are kept under a number 0 .. 2: true");
        NotWhereYesterday x = Checks.wall(3, 1);
        for (int i = 0; i <= 2; i++) {
            x.put(0, i);
            Checks.yes("keep(" + i + ")", x.keep(i));
            x.day();
        }
        for (int i = 2; i >= 0; i--) {
            Checks.yes("again(" + i + ")", x.again(i));
            Checks.is("today", x.count(2), i);
            Checks.is("the draft", x.who(i, 0), i);
        }
    }

    private static void keepRefusesOthers() {
        Checks.part("45: Refused: others");
        NotWhereYesterday x = Checks.wall(1, 1);
        for (int i : new int[] {-1, 3, 4, LOW, HIGH}) {
            Checks.no("keep(" + i + ")", x.keep(i));
            Checks.no("nothing is kept under it", x.again(i));
        }
    }

    private static void keepAnew() {
        Checks.part("45: what is kept under a number is what was kept last");
        NotWhereYesterday x = Checks.wall(1, 1);
        x.keep(0);
        x.go(0, 3);
        x.keep(0);
        x.go(0, 3);
        Checks.yes("again", x.again(0));
        Checks.is("today", x.count(2), 3);
        Checks.is("works", x.works(0), 3);
    }

    private static void keepOfAnEmptyOne() {
        Checks.part("45: of nobody and no POSTS");
        NotWhereYesterday x = new NotWhereYesterday();
        Checks.yes("keep", x.keep(2));
        x.day();
        Checks.yes("again", x.again(2));
        Checks.is("today", x.count(2), 0);
        x.person(0, 1);
        Checks.no("one of PEOPLE more", x.again(2));
    }

    private static void keepOfSixtyDays() {
        Checks.part("45: of sixty DAYS");
        NotWhereYesterday x = Checks.wall(10, 10);
        x.go(0, 60);
        x.sheet(2, 10, 9, -1);
        x.keep(0);
        Checks.yes("again", x.again(0));
        Checks.is("today", x.count(2), 60);
        Checks.is("the last day", x.who(59, 9), 8);
        Checks.is("the draft", x.who(60, 9), 0);
        Checks.is("filled", x.count(5), 10);
        Checks.is("no day more", x.day(), NONE);
    }

    private static void keepsWhatIsNamedAlone() {
        Checks.part("45: DAYS, THE DRAFT, WORKS, CRAFTS, GOES had: not THE RULE, THE TEXT, the ROW");
        NotWhereYesterday x = new NotWhereYesterday();
        x.person(0, 2);
        x.post(0, false, 9, 3);
        x.put(0, 0);
        x.day();
        x.put(0, 0);
        Checks.told(x, "w1;b2");
        x.sign(0);
        x.keep(1);
        x.end(0);
        Checks.told(x, "w3;b4");
        x.day();
        Checks.is("has learnt", x.crafts(0, NONE), 1);
        Checks.dayOf(x, 0);
        Checks.tell(x, "w2;");
        x.works(0);
        Checks.rowIs("works", x, 10, 0);
        Checks.yes("again", x.again(1));
        Checks.rowIs("the ROW", x, 10, 0);
        Checks.is("WHERE", x.count(3), 3);
        Checks.is("BESIDE", x.count(4), 4);
        Checks.is("signs", x.count(7), 3);
        Checks.is("DAYS", x.count(2), 1);
        Checks.is("THE DRAFT", x.who(1, 0), 0);
        Checks.is("CRAFTS", x.crafts(0, NONE), 0);
        Checks.is("GOES", x.crafts(0, 0), 1);
        x.works(0);
        Checks.rowIs("WORKS", x, 0, NONE);
        Checks.is("no day behind it", x.who(2, 0), -2);
    }

    private static void againRefusesNothingKept() {
        Checks.part("46: Refused: nothing kept");
        NotWhereYesterday x = Checks.wall(1, 1);
        x.put(0, 0);
        x.keep(1);
        x.day();
        Checks.no("again(0)", x.again(0));
        Checks.no("again(2)", x.again(2));
        Checks.is("today", x.count(2), 1);
        Checks.yes("again(1)", x.again(1));
        NotWhereYesterday y = new NotWhereYesterday();
        for (int i = 0; i <= 2; i++) {
            Checks.no("of nobody and no POSTS", y.again(i));
        }
    }

    private static void againRefusesOthers() {
        Checks.part("46: Refused: another number");
        NotWhereYesterday x = Checks.wall(1, 1);
        for (int i = 0; i <= 2; i++) {
            x.keep(i);
        }
        x.day();
        for (int i : new int[] {-1, 3, 4, LOW, HIGH}) {
            Checks.no("again(" + i + ")", x.again(i));
        }
        Checks.is("today", x.count(2), 1);
    }

    private static void againRefusesBehindAPersonOrAPost() {
        Checks.part("46: Refused: one of PEOPLE or a POST was told since");
        NotWhereYesterday x = Checks.wall(1, 1);
        x.keep(0);
        x.person(63, 1);
        x.keep(1);
        x.post(NONE, false, 1, 0);
        x.keep(2);
        x.day();
        Checks.no("one of PEOPLE and a POST", x.again(0));
        Checks.no("a POST", x.again(1));
        Checks.is("today", x.count(2), 1);
        Checks.yes("neither", x.again(2));
        x.person(63, 1);
        Checks.no("one of PEOPLE", x.again(2));
        x.keep(0);
        Checks.yes("kept anew", x.again(0));
    }

    private static void againBehindRefusedOnes() {
        Checks.part("46: one who was refused was not told");
        NotWhereYesterday x = Checks.wall(10, 10);
        x.keep(0);
        x.day();
        x.person(0, 1);
        x.post(0, true, 1, 0);
        Checks.yes("the eleventh", x.again(0));
        NotWhereYesterday y = Checks.wall(1, 1);
        y.keep(0);
        y.day();
        y.person(64, 1);
        y.post(0, true, 0, 0);
        Checks.yes("others", y.again(0));
    }

    private static void againAsOftenAsAsked() {
        Checks.part("46: They are as they were kept under a number");
        NotWhereYesterday x = Checks.wall(2, 2);
        x.go(0, 5);
        x.put(1, 1);
        x.keep(2);
        for (int i = 0; i < 3; i++) {
            x.go(1, 7 + i);
            x.put(0, 0);
            Checks.yes("again", x.again(2));
            Checks.is("today", x.count(2), 5);
            Checks.is("works", x.works(0), 5);
            Checks.is("the draft", x.who(5, 0), NONE);
            Checks.is("the draft", x.who(5, 1), 1);
            Checks.is("day 4", x.who(4, 0), 0);
        }
        x.day();
        Checks.is("the next draft is empty", x.count(5), 0);
    }

    private static void countOfEach() {
        Checks.part("47: 0: PEOPLE, 1: POSTS, 2: TODAY, 3: WHERE, 4: BESIDE, 5: POSTS filled, 6: the ROW, 7: signs");
        NotWhereYesterday x = Checks.wall(7, 6);
        Checks.told(x, "w5;b4");
        x.go(0, 3);
        x.put(5, 0);
        x.put(0, 6);
        x.good();
        x.sign(0);
        x.end(1);
        int[] due = {7, 6, 3, 5, 4, 2, 7, 1};
        for (int what = 0; what <= 7; what++) {
            Checks.is("what " + what, x.count(what), due[what]);
            Checks.is("asked again", x.count(what), due[what]);
        }
    }

    private static void countOfAnotherWhat() {
        Checks.part("47: NONE for another what");
        NotWhereYesterday x = Checks.wall(1, 1);
        for (int what : new int[] {-1, 8, 9, LOW, HIGH}) {
            Checks.is("what " + what, x.count(what), NONE);
        }
    }

    private static void countAtItsMost() {
        Checks.part("47: as many as there can be");
        NotWhereYesterday x = Checks.wall(10, 10);
        Checks.told(x, "w9;b9");
        x.go(0, 60);
        for (int i = 0; i < 20; i++) {
            x.sign(0);
        }
        x.sheet(2, 10, 0, 1);
        x.breaking(0);
        int[] due = {10, 10, 60, 9, 9, 10, 12, 80};
        for (int what = 0; what <= 7; what++) {
            Checks.is("what " + what, x.count(what), due[what]);
        }
    }

    private static void rowOfNoneSuch() {
        Checks.part("48: NoSuchElementException: none such");
        NotWhereYesterday x = Checks.wall(2, 2);
        for (int i : new int[] {-1, 0, 1, LOW, HIGH}) {
            Checks.yes("row(" + i + ") of an empty one", Checks.throwsNoSuch(x, i));
        }
        x.broken();
        for (int i : new int[] {-1, 4, 5, LOW, HIGH}) {
            Checks.yes("row(" + i + ") of four", Checks.throwsNoSuch(x, i));
        }
        Checks.is("the first", x.row(0), 0);
        Checks.is("the last", x.row(3), 0);
        x.free(0);
        Checks.is("it stays", x.row(3), 0);
        x.chairs(0);
        Checks.is("of one", x.row(0), 0);
        Checks.yes("row(1) of one, though there were four", Checks.throwsNoSuch(x, 1));
        x.none();
        Checks.yes("row(0) of one told empty", Checks.throwsNoSuch(x, 0));
    }

    private static void rowAtItsMost() {
        Checks.part("48: as many numbers as there can be");
        NotWhereYesterday x = Checks.wall(5, 5);
        Checks.is("three days of five", x.most(3), 150);
        Checks.is("fifteen", x.count(6), 15);
        Checks.is("the last", x.row(14), 4);
        Checks.yes("none behind it", Checks.throwsNoSuch(x, 15));
    }
}
