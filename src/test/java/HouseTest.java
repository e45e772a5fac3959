/** Promises 1 to 9: the house. */
public final class HouseTest {
    private static final int NONE = NotWhereYesterday.NONE;

    public static void main(String[] args) {
        newObject();
        person();
        post();
        signAndEnd();
        ruleOrdinary();
        ruleWrongSigns();
        ruleEnds();
        ruleOfSixty();
        ruleDaysBelow();
        ruleRefusedLeavesAll();
        crafts();
        may();
        mayFromTheOneToTheOther();
        mayAway();
        beside();
        Checks.end();
    }

    private static void newObject() {
        Checks.part("promise 1");
        NotWhereYesterday x = new NotWhereYesterday();
        for (int what = 0; what <= 7; what++) {
            Checks.is("count(" + what + ")", x.count(what), 0);
        }
        Checks.is("NONE", NotWhereYesterday.NONE, -1);
        Checks.is("who(0, 0)", x.who(0, 0), -2);
        Checks.is("best()", x.best(), 0);
        Checks.rowIs("best()", x);
        Checks.is("day()", x.day(), 0);
    }

    private static void person() {
        Checks.part("promise 2");
        NotWhereYesterday x = new NotWhereYesterday();
        Checks.is("crafts below 0", x.person(-1, 1), NONE);
        Checks.is("crafts above 63", x.person(64, 1), NONE);
        Checks.is("goes below 1", x.person(0, 0), NONE);
        Checks.is("goes above 9", x.person(0, 10), NONE);
        Checks.is("nobody yet", x.count(0), 0);
        for (int i = 0; i < 10; i++) {
            Checks.is("person", x.person(i * 7, 1 + i % 9), i);
            Checks.is("crafts", x.crafts(i, NONE), i * 7);
        }
        Checks.is("the eleventh", x.person(0, 1), NONE);
        Checks.is("ten", x.count(0), 10);
    }

    private static void post() {
        Checks.part("promise 3");
        NotWhereYesterday x = new NotWhereYesterday();
        Checks.is("craft 6", x.post(6, true, 1, 0), NONE);
        Checks.is("craft -2", x.post(-2, true, 1, 0), NONE);
        Checks.is("0 days", x.post(0, true, 0, 0), NONE);
        Checks.is("10 days", x.post(0, true, 10, 0), NONE);
        Checks.is("loss -1", x.post(0, true, 1, -1), NONE);
        Checks.is("loss 11", x.post(0, true, 1, 11), NONE);
        Checks.is("no posts yet", x.count(1), 0);
        for (int i = 0; i < 10; i++) {
            Checks.is("post", x.post(i % 7 - 1, i % 2 == 0, 1 + i % 9, i), i);
        }
        Checks.is("the eleventh", x.post(0, true, 1, 0), NONE);
        Checks.is("ten", x.count(1), 10);
        NotWhereYesterday y = Checks.wall(1, 1);
        y.put(0, 0);
        y.day();
        Checks.is("a post told later", y.post(NONE, true, 1, 10), 1);
        Checks.is("nobody was there", y.who(0, 1), NONE);
        Checks.is("nor is", y.who(1, 1), NONE);
    }

    private static void signAndEnd() {
        Checks.part("promises 4 and 5");
        NotWhereYesterday x = new NotWhereYesterday();
        for (int i = 1; i <= 20; i++) {
            Checks.is("sign", x.sign(-1), 4 * i);
        }
        Checks.is("more than 80", x.sign(0), NONE);
        Checks.is("eighty", x.count(7), 80);
        Checks.no("end(81)", x.end(81));
        Checks.no("end(-1)", x.end(-1));
        Checks.yes("end(80)", x.end(80));
        Checks.yes("end(77)", x.end(77));
        Checks.is("81 would be more", x.sign(0), NONE);
        Checks.yes("end(76)", x.end(76));
        Checks.is("80 are not", x.sign(0), 80);
        Checks.yes("end(0)", x.end(0));
        Checks.is("none", x.count(7), 0);
        Checks.no("end(1) of none", x.end(1));
        // the highest byte first, and the first signs alone stay
        x.sign('w' << 24 | '3' << 16 | ';' << 8 | 'b');
        x.sign('2' << 24 | '!' << 16);
        x.end(5);
        Checks.is("rule()", x.rule(), 2);
        Checks.is("WHERE", x.count(3), 3);
        Checks.is("BESIDE", x.count(4), 2);
        Checks.is("the text is empty", x.count(7), 0);
    }

    private static void ruleOrdinary() {
        Checks.part("promise 6");
        NotWhereYesterday x = new NotWhereYesterday();
        Checks.is("two lines", Checks.told(x, "w1;w4"), 2);
        Checks.is("the last w counts", x.count(3), 4);
        Checks.is("two lines", Checks.told(x, "b5;b0"), 2);
        Checks.is("no w: WHERE", x.count(3), 0);
        Checks.is("the last b counts", x.count(4), 0);
        Checks.is("all kinds", Checks.told(x, "w2;b3;f9;x9-8;a9,0-99;a0,05-05"), 6);
        Checks.is("WHERE", x.count(3), 2);
        Checks.is("BESIDE", x.count(4), 3);
        Checks.is("an empty text", x.rule(), 0);
        Checks.is("WHERE", x.count(3), 0);
        Checks.is("BESIDE", x.count(4), 0);
    }

    private static void ruleWrongSigns() {
        Checks.part("promise 6, signs");
        NotWhereYesterday x = new NotWhereYesterday();
        String[] texts = {"z", "W1", "1", ";", "wx", "w12", "w1;;", "b-", "fa", "f1f", "x1,2", "xa-1", "x1-b", "x1-23",
            "a,1-2", "a1-1-2", "a1,x-2", "a1,123-4", "a1,1;2", "a1,1-;", "a1,1-123", "a1,1-2-", "w1 ;", "w\u00b1"};
        int[] at = {0, 0, 0, 0, 1, 2, 3, 1, 1, 2, 2, 1, 3, 4, 1, 2, 3, 5, 4, 5, 7, 6, 2, 1};
        for (int i = 0; i < texts.length; i++) {
            Checks.is(texts[i], Checks.told(x, texts[i]), -1 - at[i]);
        }
    }

    private static void ruleEnds() {
        Checks.part("promise 6, ends");
        NotWhereYesterday x = new NotWhereYesterday();
        String[] texts = {"w", "b", "f", "x", "x1", "x1-", "a", "a1", "a1,", "a1,2", "a1,23", "a1,23-", "w1;", "w1;b"};
        for (String text : texts) {
            Checks.is(text, Checks.told(x, text), -1 - text.length());
        }
        Checks.is("a1,23-23", Checks.told(x, "a1,23-23"), 1);
        Checks.is("a1,2-3", Checks.told(x, "a1,2-3"), 1);
    }

    private static void ruleOfSixty() {
        Checks.part("promise 6, 60 signs");
        NotWhereYesterday x = new NotWhereYesterday();
        String lines = "w1;".repeat(19);
        Checks.is("59 signs", Checks.told(x, lines + "w1"), 20);
        Checks.is("60 signs", Checks.told(x, lines.substring(3) + "x1-2w1"), -1 - 58);
        Checks.is("60 signs that are good", Checks.told(x, lines.substring(9) + "x1-2;a1,1-11"), 18);
        Checks.is("60 that end too early", Checks.told(x, lines + "w1;"), -61);
        Checks.is("61 signs, the first 60 could end", Checks.told(x, lines.substring(9) + "x1-2;a1,1-11;"), -61);
        Checks.is("61 signs, the first 60 could go on", Checks.told(x, lines + "w1;w"), -61);
        Checks.is("61 signs, the last one can't stand", Checks.told(x, lines + "w1;!"), -61);
        Checks.is("80 signs", Checks.told(x, "w1;".repeat(26) + "w1"), -61);
        Checks.is("80 signs, one of the first 60 is wrong", Checks.told(x, "w1;".repeat(19) + "ww" + "w1;".repeat(7)), -59);
    }

    private static void ruleDaysBelow() {
        Checks.part("promise 6, days below");
        NotWhereYesterday x = new NotWhereYesterday();
        Checks.is("a1,5-4", Checks.told(x, "a1,5-4"), -6);
        Checks.is("a1,5-4;w1", Checks.told(x, "a1,5-4;w1"), -6);
        Checks.is("a1,5-4w", Checks.told(x, "a1,5-4w"), -6);
        Checks.is("a1,50-49", Checks.told(x, "a1,50-49"), -8);
        Checks.is("a1,50-5", Checks.told(x, "a1,50-5"), -7);
        Checks.is("a1,5-04", Checks.told(x, "a1,5-04"), -7);
        Checks.is("a1,5-45", Checks.told(x, "a1,5-45"), 1);
        Checks.is("a1,05-5", Checks.told(x, "a1,05-5"), 1);
        // the second digit stands behind the first 60: the DAY is 4 as far as it stands there
        String ahead = "w1;".repeat(18);
        Checks.is("cut off, below", Checks.told(x, ahead + "a1,5-45"), -60);
        Checks.is("cut off, not below", Checks.told(x, ahead + "a1,4-45"), -61);
        Checks.is("cut off behind the first day", Checks.told(x, "x1-2;" + "w1;".repeat(17) + "a1,9-8"), -61);
    }

    private static void ruleRefusedLeavesAll() {
        Checks.part("promise 6, refused");
        NotWhereYesterday x = Checks.wall(2, 2);
        Checks.told(x, "w2;b1;x0-1;f0;a1,0-0");
        x.best();
        x.put(0, 0);
        Checks.is("a wrong text", Checks.told(x, "w9;b9;f1;a0,0-9;!"), -17);
        Checks.is("the text is empty", x.count(7), 0);
        Checks.is("WHERE stays", x.count(3), 2);
        Checks.is("BESIDE stays", x.count(4), 1);
        Checks.is("away stays", x.may(1, 0), 0);
        Checks.is("not away stays", x.may(0, 0), 1);
        Checks.rowIs("the ROW stays", x, NONE, 0);
        Checks.is("THE DRAFT stays", x.who(0, 0), 0);
    }

    private static void crafts() {
        Checks.part("promise 7");
        NotWhereYesterday x = new NotWhereYesterday();
        x.person(5, 3);
        x.post(4, false, 1, 0);
        x.post(1, false, 1, 0);
        for (int go = 1; go <= 2; go++) {
            Checks.dayOf(x, 0);
            Checks.is("goes in 4", x.crafts(0, 4), go);
            Checks.is("crafts", x.crafts(0, NONE), 5);
        }
        Checks.dayOf(x, NONE, 0);
        Checks.is("goes in 1, by itself", x.crafts(0, 1), 1);
        Checks.is("goes in 4", x.crafts(0, 4), 2);
        Checks.dayOf(x, 0);
        Checks.is("they begin anew", x.crafts(0, 4), 0);
        Checks.is("it has it", x.crafts(0, NONE), 5 | 16);
        Checks.is("nothing was worked ahead of it", x.works(0), 0);
        Checks.rowIs("works(0)", x, 0, NONE);
        Checks.dayOf(x, 0);
        Checks.is("it works", x.works(0), 1);
        Checks.is("no goes more", x.crafts(0, 4), 0);
        Checks.is("no such craft", x.crafts(0, 6), NONE);
        Checks.is("no such craft", x.crafts(0, -2), NONE);
        Checks.is("none such", x.crafts(1, 0), NONE);
        Checks.is("none such", x.crafts(-1, NONE), NONE);
    }

    private static void may() {
        Checks.part("promise 8");
        NotWhereYesterday x = Checks.wall(2, 2);
        Checks.told(x, "w2");
        Checks.is("at first", x.may(0, 0), 1);
        Checks.dayOf(x, 0);
        Checks.is("a day behind it", x.may(0, 0), 0);
        Checks.is("at the other", x.may(0, 1), 1);
        Checks.is("the other one", x.may(1, 0), 1);
        Checks.dayOf(x);
        Checks.is("two days behind it", x.may(0, 0), 0);
        Checks.dayOf(x);
        Checks.is("three days behind it", x.may(0, 0), 1);
        Checks.told(x, "w3");
        Checks.is("by WHERE 3", x.may(0, 0), 0);
        Checks.told(x, "w9;f0");
        Checks.is("free", x.may(0, 0), 1);
        Checks.is("no such post", x.may(0, 2), NONE);
        Checks.is("no such post", x.may(0, -1), NONE);
        Checks.is("none such", x.may(2, 0), NONE);
        Checks.is("none such", x.may(-1, 0), NONE);
    }

    private static void mayFromTheOneToTheOther() {
        Checks.part("promise 8, x");
        NotWhereYesterday x = Checks.wall(1, 2);
        Checks.told(x, "x0-1;f1");
        Checks.dayOf(x, 0);
        Checks.is("from 0 to 1, though it is free", x.may(0, 1), 0);
        Checks.is("from 0 to 0", x.may(0, 0), 1);
        Checks.told(x, "x1-0");
        Checks.is("not the other way", x.may(0, 1), 1);
        Checks.told(x, "x0-2");
        x.post(NONE, false, 1, 0);
        Checks.is("to a post that was not there", x.may(0, 2), 0);
        Checks.dayOf(x);
        Checks.is("two days behind it", x.may(0, 2), 1);
    }

    private static void mayAway() {
        Checks.part("promise 8, a");
        NotWhereYesterday x = Checks.wall(2, 1);
        Checks.told(x, "a0,1-2;a2,0-9;f0");
        int[] due = {1, 0, 0, 1};
        for (int day = 0; day < 4; day++) {
            Checks.is("day " + day, x.may(0, 0), due[day]);
            Checks.is("the other", x.may(1, 0), 1);
            x.day();
        }
        x.person(0, 1);
        Checks.is("one who was told later", x.may(2, 0), 0);
    }

    private static void beside() {
        Checks.part("promise 9");
        NotWhereYesterday x = Checks.wall(4, 4);
        Checks.told(x, "b2");
        Checks.dayOf(x, 0, 1, NONE, 2);
        Checks.is("were neighbours", x.beside(0, 1), 0);
        Checks.is("likewise", x.beside(1, 0), 0);
        Checks.is("one between", x.beside(0, 2), 1);
        Checks.is("an empty post between", x.beside(1, 2), 1);
        Checks.is("was not there", x.beside(0, 3), 1);
        Checks.dayOf(x);
        Checks.is("two days behind it", x.beside(1, 0), 0);
        Checks.dayOf(x);
        Checks.is("three days behind it", x.beside(1, 0), 1);
        Checks.is("not unlike", x.beside(0, 0), NONE);
        Checks.is("none such", x.beside(0, 4), NONE);
        Checks.is("none such", x.beside(-1, 0), NONE);
    }
}
