/** Promises 1 to 9: each sentence that names an edge has a test of its own here. */
public final class EdgesOfHouseTest {
    private static final int NONE = NotWhereYesterday.NONE;
    private static final int LOW = Integer.MIN_VALUE;
    private static final int HIGH = Integer.MAX_VALUE;

    public static void main(String[] args) {
        nobodyNoPosts();
        personsNumber();
        personRefusesOthers();
        personRefusesTheEleventh();
        postsNumber();
        postRefusesOthers();
        postRefusesTheEleventh();
        signsHighestByteFirst();
        signsOfAnyInt();
        signsNoMoreThan80();
        endOfTheFirstAlone();
        endOfNotSoMany();
        endBelow0();
        ruleOfAnEmptyText();
        ruleLines();
        ruleSignThatCannotStand();
        ruleSignsBesideDigitsAndLetters();
        ruleEndsTooEarly();
        ruleOfSixtySigns();
        ruleOfMoreThatCouldEnd();
        ruleOfMoreThatCouldGoOn();
        ruleOfMoreWithAWrongSign();
        ruleDayBelow();
        ruleDayNotBelow();
        ruleDayBelowAsFarAsItStands();
        ruleDigitsOfPostsAndPeople();
        ruleDigitsOfDays();
        ruleIsAllNew();
        craftsOrGoes();
        goesBeginAnew();
        craftsOfNoneSuch();
        mayOfNoneSuch();
        besideOfTwoUnlike();
        Checks.end();
    }

    private static void nobodyNoPosts() {
        Checks.part("1: Nobody, no POSTS");
        NotWhereYesterday x = new NotWhereYesterday();
        for (int what = 0; what <= 7; what++) {
            Checks.is("count(" + what + ")", x.count(what), 0);
        }
        Checks.is("crafts", x.crafts(0, NONE), NONE);
        Checks.is("may", x.may(0, 0), NONE);
        Checks.is("put", x.put(0, NONE), -3);
        Checks.is("who", x.who(0, 0), -2);
        Checks.is("works", x.works(0), NONE);
        Checks.is("sheet", x.sheet(2, 10, 0, 1), 0);
        Checks.is("good", x.good(), 1);
        Checks.rowIs("good", x, 0);
        Checks.is("best", x.best(), 0);
        Checks.rowIs("best", x);
        Checks.is("fill", x.fill(), 0);
        Checks.is("worth", x.worth(), -2);
        Checks.is("none", x.none(), 0);
        Checks.is("breaking", x.breaking(1), 0);
        Checks.rowIs("breaking", x, 0, 0);
        Checks.is("ever", x.ever(), 1);
        Checks.rowIs("ever", x, 1);
        Checks.is("go", x.go(0, 0), NONE);
        Checks.is("all", x.all(), NONE);
        Checks.is("day", x.day(), 0);
    }

    private static void personsNumber() {
        Checks.part("2: One of PEOPLE more: its number");
        NotWhereYesterday x = new NotWhereYesterday();
        int[] crafts = {0, 63, 1, 62, 32, 31, 5, 8, 16, 2};
        for (int i = 0; i < 10; i++) {
            Checks.is("its number", x.person(crafts[i], 9 - i % 9), i);
            Checks.is("how many", x.count(0), i + 1);
            for (int a = 0; a <= i; a++) {
                Checks.is("crafts of " + a, x.crafts(a, NONE), crafts[a]);
            }
        }
    }

    private static void personRefusesOthers() {
        Checks.part("2: Refused: others");
        NotWhereYesterday x = new NotWhereYesterday();
        for (int crafts : new int[] {-1, 64, 65, 127, LOW, HIGH}) {
            Checks.is("crafts " + crafts, x.person(crafts, 1), NONE);
        }
        for (int goes : new int[] {0, -1, 10, LOW, HIGH}) {
            Checks.is("goes " + goes, x.person(0, goes), NONE);
        }
        Checks.is("nobody", x.count(0), 0);
        Checks.is("the least", x.person(0, 1), 0);
        Checks.is("the greatest", x.person(63, 9), 1);
    }

    private static void personRefusesTheEleventh() {
        Checks.part("2: Refused: 10");
        NotWhereYesterday x = Checks.wall(9, 0);
        Checks.is("the tenth", x.person(3, 1), 9);
        Checks.is("the eleventh", x.person(5, 1), NONE);
        Checks.is("once more", x.person(5, 1), NONE);
        Checks.is("ten", x.count(0), 10);
        Checks.is("the tenth stays", x.crafts(9, NONE), 3);
        Checks.is("none such", x.crafts(10, NONE), NONE);
    }

    private static void postsNumber() {
        Checks.part("3: A POST more (CRAFT NONE: none): its number");
        NotWhereYesterday x = Checks.wall(1, 0);
        for (int i = 0; i < 10; i++) {
            Checks.is("its number", x.post(i % 7 - 1, i % 2 == 1, 1 + i % 9, 10 - i), i);
            Checks.is("how many", x.count(1), i + 1);
            Checks.is("days of one", x.till(i, 1), 1 + i % 9);
        }
    }

    private static void postRefusesOthers() {
        Checks.part("3: Refused: others");
        NotWhereYesterday x = new NotWhereYesterday();
        for (int craft : new int[] {-2, 6, 7, LOW, HIGH}) {
            Checks.is("craft " + craft, x.post(craft, true, 1, 0), NONE);
        }
        for (int days : new int[] {0, -1, 10, LOW, HIGH}) {
            Checks.is("days " + days, x.post(0, true, days, 0), NONE);
        }
        for (int loss : new int[] {-1, 11, LOW, HIGH}) {
            Checks.is("loss " + loss, x.post(0, true, 1, loss), NONE);
        }
        Checks.is("no posts", x.count(1), 0);
        Checks.is("the least", x.post(-1, false, 1, 0), 0);
        Checks.is("the greatest", x.post(5, true, 9, 10), 1);
    }

    private static void postRefusesTheEleventh() {
        Checks.part("3: Refused: 10");
        NotWhereYesterday x = Checks.wall(1, 9);
        Checks.is("the tenth", x.post(NONE, true, 1, 0), 9);
        Checks.is("the eleventh", x.post(NONE, true, 1, 0), NONE);
        Checks.is("ten", x.count(1), 10);
        Checks.is("none such", x.works(10), NONE);
    }

    private static void signsHighestByteFirst() {
        Checks.part("4: Four signs come behind THE TEXT, of v the highest byte first: how many it has");
        NotWhereYesterday x = new NotWhereYesterday();
        Checks.is("four", x.sign('w' << 24 | '3' << 16 | ';' << 8 | 'b'), 4);
        Checks.is("eight", x.sign('7' << 24 | ';' << 16 | 'f' << 8 | '0'), 8);
        Checks.is("lines", x.rule(), 3);
        Checks.is("WHERE", x.count(3), 3);
        Checks.is("BESIDE", x.count(4), 7);
        Checks.is("behind what an end left", x.sign('w' << 24 | '5' << 16), 4);
        x.end(1);
        Checks.is("behind what an end left", x.sign('8' << 24), 5);
        x.end(2);
        Checks.is("w8", x.rule(), 1);
        Checks.is("WHERE", x.count(3), 8);
    }

    private static void signsOfAnyInt() {
        Checks.part("4: v may be any int");
        NotWhereYesterday x = new NotWhereYesterday();
        for (int v : new int[] {-1, 0, LOW, HIGH}) {
            Checks.is("sign(" + v + ")", x.sign(v), 4);
            Checks.is("the first can't stand", x.rule(), -1);
        }
        // a byte is not less than its eight bits: 0xf7 is no 'w', though its low seven bits are
        x.sign(('w' | 128) << 24 | '1' << 16);
        x.end(2);
        Checks.is("a sign above 127", x.rule(), -1);
        x.sign('w' << 24 | ('1' | 128) << 16);
        x.end(2);
        Checks.is("a sign above 127", x.rule(), -2);
    }

    private static void signsNoMoreThan80() {
        Checks.part("4: Refused: there would be more than 80");
        NotWhereYesterday x = new NotWhereYesterday();
        for (int i = 1; i <= 20; i++) {
            Checks.is("up to 80", x.sign(0), 4 * i);
        }
        for (int had = 80; had >= 77; had--) {
            x.end(had);
            Checks.is("behind " + had, x.sign(0), NONE);
            Checks.is("as many as ahead", x.count(7), had);
        }
        x.end(76);
        Checks.is("behind 76", x.sign(0), 80);
    }

    private static void endOfTheFirstAlone() {
        Checks.part("5: THE TEXT has its first n signs alone: true");
        NotWhereYesterday x = new NotWhereYesterday();
        Checks.yes("end(0) of none", x.end(0));
        x.sign('w' << 24 | '1' << 16 | ';' << 8 | 'w');
        Checks.yes("all of them", x.end(4));
        Checks.is("four", x.count(7), 4);
        Checks.yes("two of them", x.end(2));
        Checks.is("two", x.count(7), 2);
        Checks.is("the first two", x.rule(), 1);
        x.sign('w' << 24);
        Checks.yes("none of them", x.end(0));
        Checks.is("none", x.count(7), 0);
        Checks.is("an empty rule", x.rule(), 0);
    }

    private static void endOfNotSoMany() {
        Checks.part("5: false if it has not so many");
        NotWhereYesterday x = new NotWhereYesterday();
        Checks.no("end(1) of none", x.end(1));
        x.sign(0);
        x.end(3);
        Checks.no("end(4) of three, though there were four", x.end(4));
        Checks.no("end(80) of three", x.end(80));
        Checks.no("end(HIGH)", x.end(HIGH));
        Checks.is("three", x.count(7), 3);
    }

    private static void endBelow0() {
        Checks.part("5: false if n is below 0");
        NotWhereYesterday x = new NotWhereYesterday();
        Checks.no("end(-1) of none", x.end(-1));
        x.sign(0);
        Checks.no("end(-1)", x.end(-1));
        Checks.no("end(LOW)", x.end(LOW));
        Checks.is("four", x.count(7), 4);
    }

    private static void ruleOfAnEmptyText() {
        Checks.part("6: how many LINES (0 of an empty one)");
        NotWhereYesterday x = Checks.wall(1, 1);
        Checks.told(x, "w2;b3;a0,0-9;f0;x0-0");
        Checks.is("of no signs", x.rule(), 0);
        Checks.is("WHERE", x.count(3), 0);
        Checks.is("BESIDE", x.count(4), 0);
        Checks.is("nobody is away", x.may(0, 0), 1);
        Checks.dayOf(x, 0);
        Checks.is("from the post to itself", x.may(0, 0), 1);
        Checks.told(x, "w1;f0");
        x.rule();
        Checks.told(x, "w1");
        Checks.is("free no more", x.may(0, 0), 0);
    }

    private static void ruleLines() {
        Checks.part("6: how many LINES");
        NotWhereYesterday x = new NotWhereYesterday();
        StringBuilder text = new StringBuilder("f0");
        for (int lines = 1; lines <= 20; lines++) {
            Checks.is(lines + " of them", Checks.told(x, text.toString()), lines);
            Checks.is("the text is empty", x.count(7), 0);
            text.append(";f").append(lines % 10);
        }
    }

    private static void ruleSignThatCannotStand() {
        Checks.part("6: -1 - p: the sign at p can't stand there");
        NotWhereYesterday x = new NotWhereYesterday();
        String[] texts = {"?", "ww", "w1w", "w1,", "w1;?", "w12", "b;", "b1b", "f;", "fx", "f11", "x-", "x1", "x1;", "x1-;",
            "x1--", "x1-22", "x11", "a;", "a,", "a11", "a1;", "a1,;", "a1,,", "a1,1,", "a1,111", "a1,1-;", "a1,1-a", "a1,1-1-",
            "a1,1-111", "a1-", "w1;b1;f1;x1-1;a1,1-1;y"};
        int[] at = {0, 1, 2, 2, 3, 2, 1, 2, 1, 1, 2, 1, 2, 2, 3, 3, 4, 2, 1, 1, 2, 2, 3, 3, 4, 5, 5, 5, 6, 7, 2, 21};
        for (int i = 0; i < texts.length; i++) {
            // a text whose end is the wrong sign is told in ruleEndsTooEarly; here x1 ends at 2, too
            Checks.is(texts[i], Checks.told(x, texts[i]), -1 - at[i]);
            Checks.is("the text is empty", x.count(7), 0);
        }
    }

    private static void ruleSignsBesideDigitsAndLetters() {
        Checks.part("6: signs that stand beside the right ones");
        NotWhereYesterday x = new NotWhereYesterday();
        String[] digits = {"w?", "b?", "f?", "x?", "x0-?", "a?", "a0,?", "a0,1-?"};
        for (String text : digits) {
            int at = text.length() - 1;
            for (char c : new char[] {'/', ':', ' ', 0, '0' | 128, '9' | 128, 255}) {
                String wrong = text.replace('?', c);
                Checks.is("sign " + (int) c + " in " + text, Checks.told(x, wrong + ";w1"), -1 - at);
            }
        }
        for (char c : new char[] {'v', 'W', 'c', 'B', 'e', 'g', 'F', 'y', 'X', '`', 'A', '0', ';', ',', '-', 0, 255}) {
            Checks.is("a line of sign " + (int) c, Checks.told(x, "w1;" + c + "0"), -4);
        }
        for (char c : new char[] {':', '<', ',', ' ', '\n', 0, ';' | 128}) {
            Checks.is("behind a line sign " + (int) c, Checks.told(x, "w1" + c + "w1"), -3);
        }
        for (char c : new char[] {'+', '.', ',', ' ', '_', '-' | 128}) {
            Checks.is("from - to, sign " + (int) c, Checks.told(x, "x1" + c + "1"), -3);
            Checks.is("from - to, sign " + (int) c, Checks.told(x, "a1,1" + c + "1"), -5);
        }
        for (char c : new char[] {'+', '-', '.', ' ', ',' | 128}) {
            Checks.is("a comma, sign " + (int) c, Checks.told(x, "a1" + c + "1-1"), -3);
        }
    }

    private static void ruleEndsTooEarly() {
        Checks.part("6: its end, if it ends too early");
        NotWhereYesterday x = new NotWhereYesterday();
        String[] texts = {"w", "b", "f", "x", "x0", "x0-", "a", "a0", "a0,", "a0,1", "a0,10", "a0,1-", "a0,10-"};
        for (String text : texts) {
            Checks.is(text, Checks.told(x, text), -1 - text.length());
            Checks.is("behind a line: " + text, Checks.told(x, "b0;" + text), -4 - text.length());
        }
        Checks.is("behind ;", Checks.told(x, "w1;"), -4);
        Checks.is("59 signs and no more", Checks.told(x, "w1;".repeat(19) + "x0"), -60);
        Checks.is("60 signs and no more", Checks.told(x, "w1;".repeat(19) + "x0-"), -61);
    }

    private static void ruleOfSixtySigns() {
        Checks.part("6: a text of at most 60 signs");
        NotWhereYesterday x = new NotWhereYesterday();
        String sixty = "w1;".repeat(17) + "a0,10-11;";
        Checks.is("60, ended by ;", Checks.told(x, sixty), -61);
        sixty = "w1;".repeat(17) + "x0-1;b3;w";
        Checks.is("60, ended by w", Checks.told(x, sixty), -61);
        sixty = "w1;".repeat(17) + "x0-1;b3;?";
        Checks.is("60, the last can't stand", Checks.told(x, sixty), -60);
        sixty = "w1;".repeat(16) + "x0-1;x0-1;w2";
        Checks.is("60 that are right", Checks.told(x, sixty), 19);
        Checks.is("WHERE", x.count(3), 2);
        Checks.is("59 that are right", Checks.told(x, "w3;".repeat(19) + "w4"), 20);
        Checks.is("WHERE", x.count(3), 4);
    }

    private static void ruleOfMoreThatCouldEnd() {
        Checks.part("6: 60, if it has more and the first 60 could end");
        NotWhereYesterday x = new NotWhereYesterday();
        String sixty = "w1;".repeat(16) + "x0-1;x0-1;w2";
        for (String more : new String[] {";", "w", "?", ";w1", ";w1;w1;w1;w1;w1;w1", "???"}) {
            Checks.is("and " + more, Checks.told(x, sixty + more), -61);
        }
        Checks.is("WHERE stays", x.count(3), 0);
    }

    private static void ruleOfMoreThatCouldGoOn() {
        Checks.part("6: 60, if it has more and the first 60 could go on");
        String[] ends = {"w1;", "x0-", "a0,", "b1;", "f0;w1;", "f0;x1-", "w1;x0-1;x", "w1;x0-1;a", "w1;x0-1;w", "a0,10-"};
        for (String end : ends) {
            NotWhereYesterday x = new NotWhereYesterday();
            StringBuilder text = new StringBuilder();
            while (text.length() + end.length() < 60) {
                text.append("w1;");
            }
            text.append(end);
            Checks.is("60 signs", text.length(), 60);
            for (String more : new String[] {"1", ";", "?", "1;w1", "w1w1"}) {
                Checks.is(end + " and " + more, Checks.told(x, text + more), -61);
            }
        }
    }

    private static void ruleOfMoreWithAWrongSign() {
        Checks.part("6: more than 60, of which one of the first 60 can't stand");
        for (int at = 0; at < 78; at++) {
            StringBuilder text = new StringBuilder("w1;".repeat(26));
            text.setCharAt(at, '?');
            Checks.is("at " + at, Checks.told(new NotWhereYesterday(), text.toString()), -1 - Math.min(at, 60));
        }
    }

    private static void ruleDayBelow() {
        Checks.part("6: a DAY below the one ahead: at its last digit");
        NotWhereYesterday x = new NotWhereYesterday();
        String[] texts = {"a0,1-0", "a0,9-8", "a0,10-9", "a0,10-09", "a0,11-10", "a0,99-98", "a0,99-00", "a0,01-0", "a0,1-00",
            "w1;a0,3-2;w1", "a0,3-2?", "a0,30-29;w1", "a0,30-29?", "a0,30-29-", "a0,20-1w"};
        int[] at = {5, 5, 6, 7, 7, 7, 7, 6, 6, 8, 5, 7, 7, 7, 6};
        for (int i = 0; i < texts.length; i++) {
            Checks.is(texts[i], Checks.told(x, texts[i]), -1 - at[i]);
        }
    }

    private static void ruleDayNotBelow() {
        Checks.part("6: a DAY not below the one ahead");
        NotWhereYesterday x = new NotWhereYesterday();
        String[] texts = {"a0,0-0", "a0,0-1", "a0,9-9", "a0,9-10", "a0,9-09", "a0,09-9", "a0,10-10", "a0,99-99", "a0,00-0",
            "a0,5-10", "a0,5-45"};
        for (String text : texts) {
            Checks.is(text, Checks.told(x, text), 1);
        }
    }

    private static void ruleDayBelowAsFarAsItStands() {
        Checks.part("6: a DAY below the one ahead, as far as it stands in the first 60");
        NotWhereYesterday x = new NotWhereYesterday();
        String of54 = "w1;".repeat(18);
        String of53 = "w1;".repeat(16) + "x0-0;";
        String of52 = "w1;".repeat(14) + "x0-0;x0-0;";
        for (String more : new String[] {"", ";", ";w1", "?"}) {
            Checks.is("its digit is the 60th", Checks.told(x, of54 + "a0,5-4" + more), -60);
            Checks.is("its last digit is the 60th", Checks.told(x, of53 + "a0,5-04" + more), -60);
            Checks.is("its last digit is the 60th", Checks.told(x, of52 + "a0,20-19" + more), -60);
            Checks.is("its digit is the 59th", Checks.told(x, of53 + "a0,5-4;" + more), -59);
        }
        Checks.is("of two digits the first stands there, below", Checks.told(x, of54 + "a0,5-45"), -60);
        Checks.is("of two digits the first stands there, not below", Checks.told(x, of54 + "a0,5-50"), -61);
        Checks.is("of two and two the first of it, below", Checks.told(x, of53 + "a0,50-51"), -60);
        Checks.is("of two and two the first of it, not below", Checks.told(x, of53 + "a0,05-51"), -61);
        Checks.is("it stands behind them", Checks.told(x, of54 + "a0,50-4"), -61);
        Checks.is("the one ahead stands there half", Checks.told(x, "w1;".repeat(12) + "x0-0;".repeat(4) + "a0,50-4"), -61);
    }

    private static void ruleDigitsOfPostsAndPeople() {
        Checks.part("6: POSTS, PEOPLE of one digit, there or not");
        NotWhereYesterday x = new NotWhereYesterday();
        for (int i = 0; i <= 9; i++) {
            Checks.is("f" + i, Checks.told(x, "f" + i), 1);
            Checks.is("x" + i, Checks.told(x, "x" + i + "-" + (9 - i)), 1);
            Checks.is("a" + i, Checks.told(x, "a" + i + ",1-1"), 1);
            Checks.is("f of two digits", Checks.told(x, "f" + i + i), -3);
            Checks.is("x of two digits", Checks.told(x, "x" + i + i + "-1"), -3);
            Checks.is("x to one of two digits", Checks.told(x, "x1-" + i + i), -5);
            Checks.is("a of two digits", Checks.told(x, "a" + i + i + ",1-1"), -3);
        }
    }

    private static void ruleDigitsOfDays() {
        Checks.part("6: DAYS of 1 or 2 digits");
        NotWhereYesterday x = new NotWhereYesterday();
        Checks.is("1 and 1", Checks.told(x, "a0,1-2"), 1);
        Checks.is("2 and 2", Checks.told(x, "a0,10-20"), 1);
        Checks.is("1 and 2", Checks.told(x, "a0,1-20"), 1);
        Checks.is("2 and 1", Checks.told(x, "a0,01-2"), 1);
        Checks.is("0 and 1", Checks.told(x, "a0,-2"), -4);
        Checks.is("1 and 0", Checks.told(x, "a0,1-;"), -6);
        Checks.is("3 and 1", Checks.told(x, "a0,001-2"), -6);
        Checks.is("1 and 3", Checks.told(x, "a0,1-012"), -8);
    }

    private static void ruleIsAllNew() {
        Checks.part("6: THE TEXT is THE RULE");
        NotWhereYesterday x = Checks.wall(1, 1);
        Checks.told(x, "w1;b2;a0,1-1");
        Checks.told(x, "x0-0");
        Checks.is("WHERE", x.count(3), 0);
        Checks.is("BESIDE", x.count(4), 0);
        Checks.dayOf(x);
        Checks.is("not away", x.may(0, 0), 1);
        Checks.dayOf(x, 0);
        Checks.is("from the post to itself", x.may(0, 0), 0);
        Checks.told(x, "f0");
        Checks.is("no more", x.may(0, 0), 1);
        Checks.told(x, "w1");
        Checks.is("free no more", x.may(0, 0), 0);
    }

    private static NotWhereYesterday learner() {
        NotWhereYesterday x = new NotWhereYesterday();
        x.person(6, 3);
        for (int craft = 0; craft < 6; craft++) {
            x.post(craft, false, 1, 0);
        }
        return x;
    }

    private static void craftsOrGoes() {
        Checks.part("7: CRAFTS; with a CRAFT 0 .. 5 told: how many GOES it has in it");
        NotWhereYesterday x = learner();
        Checks.is("crafts", x.crafts(0, NONE), 6);
        for (int craft = 0; craft < 6; craft++) {
            Checks.is("no goes", x.crafts(0, craft), 0);
            x.put(craft, 0);
            x.day();
            Checks.is("a go in one that it has not", x.crafts(0, craft), craft == 1 || craft == 2 ? 0 : 1);
        }
        Checks.is("crafts", x.crafts(0, NONE), 6);
    }

    private static void goesBeginAnew() {
        Checks.part("7: 0 behind GOES of them: they begin anew");
        NotWhereYesterday x = learner();
        int[] goes = {0, 1, 2, 0, 0, 0};
        for (int day = 0; day < goes.length; day++) {
            Checks.is("ahead of day " + day, x.crafts(0, 5), goes[day]);
            Checks.is("crafts", x.crafts(0, NONE), day < 3 ? 6 : 38);
            x.put(5, 0);
            x.day();
        }
    }

    private static void craftsOfNoneSuch() {
        Checks.part("7: NONE: none such");
        NotWhereYesterday x = learner();
        for (int craft : new int[] {-2, 6, 7, LOW, HIGH}) {
            Checks.is("craft " + craft, x.crafts(0, craft), NONE);
        }
        for (int one : new int[] {-1, 1, 9, 10, LOW, HIGH}) {
            Checks.is("one " + one, x.crafts(one, NONE), NONE);
            Checks.is("one " + one + ", craft 0", x.crafts(one, 0), NONE);
        }
    }

    private static void mayOfNoneSuch() {
        Checks.part("8: NONE: none such");
        NotWhereYesterday x = Checks.wall(2, 3);
        for (int one : new int[] {-1, 2, 9, 10, LOW, HIGH}) {
            Checks.is("one " + one, x.may(one, 0), NONE);
        }
        for (int post : new int[] {-1, 3, 9, 10, LOW, HIGH}) {
            Checks.is("post " + post, x.may(0, post), NONE);
        }
        Checks.is("the last of each", x.may(1, 2), 1);
        Checks.is("a post that it can't do, too", new NotWhereYesterday().may(0, 0), NONE);
        NotWhereYesterday y = new NotWhereYesterday();
        y.person(0, 1);
        y.post(0, true, 1, 0);
        Checks.is("one who can't, may", y.may(0, 0), 1);
    }

    private static void besideOfTwoUnlike() {
        Checks.part("9: two unlike ones. NONE: others");
        NotWhereYesterday x = Checks.wall(3, 1);
        for (int one : new int[] {-1, 3, 9, 10, LOW, HIGH}) {
            Checks.is("the one is none", x.beside(one, 0), NONE);
            Checks.is("the other is none", x.beside(0, one), NONE);
        }
        for (int one = 0; one < 3; one++) {
            for (int other = 0; other < 3; other++) {
                Checks.is(one + " and " + other, x.beside(one, other), one == other ? NONE : 1);
            }
        }
    }
}
