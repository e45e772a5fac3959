import java.util.function.ToLongFunction;

/**
 * Calls that only ask change nothing but the ROW, and that only if they tell one: behind each call each other one
 * answers as if it had not been made, and its ROW is told anew (ROW: numbers told last by a call that says so).
 */
public final class AskingTest {
    private static final int NONE = NotWhereYesterday.NONE;

    private static final String[] NAMES = {"good", "judge", "broken", "works", "best", "ill", "worth", "none", "breaking",
        "few", "law", "price", "written", "ever", "round", "lessons", "most", "fresh", "often", "alternate", "chairs",
        "crafts", "may", "beside", "who", "free", "can", "till", "lasts", "met", "all", "soon", "unlike", "count", "keep"};
    private static final int TELLING = 21;

    public static void main(String[] args) {
        for (int i = 0; i < NAMES.length; i++) {
            leavesAllButTheRow(i);
            for (int j = 0; j < NAMES.length; j++) {
                leavesAnswers(i, j);
            }
        }
        everyTellingCallTells();
        Checks.end();
    }

    private static NotWhereYesterday wall() {
        NotWhereYesterday x = new NotWhereYesterday();
        x.person(7, 2);
        x.person(1, 3);
        x.person(6, 9);
        x.person(63, 9);
        x.post(NONE, true, 3, 4);
        x.post(1, true, 2, 5);
        x.post(NONE, false, 9, 10);
        Checks.told(x, "w1;b1;f0;x0-2;a1,4-4");
        Checks.dayOf(x, 0, 1, 2);
        Checks.dayOf(x, 1, 2, 0);
        Checks.dayOf(x, 0, 2, 1);
        x.put(2, 0);
        Checks.tell(x, "b3;w2");
        return x;
    }

    private static ToLongFunction<NotWhereYesterday> call(int i) {
        switch (NAMES[i]) {
            case "good":
                return NotWhereYesterday::good;
            case "judge":
                return x -> x.judge(0);
            case "broken":
                return NotWhereYesterday::broken;
            case "works":
                return x -> x.works(0);
            case "best":
                return NotWhereYesterday::best;
            case "ill":
                return x -> x.ill(2);
            case "worth":
                return NotWhereYesterday::worth;
            case "none":
                return NotWhereYesterday::none;
            case "breaking":
                return x -> x.breaking(3);
            case "few":
                return x -> x.few(1);
            case "law":
                return x -> x.law(0, 2);
            case "price":
                return x -> x.price(1);
            case "written":
                return NotWhereYesterday::written;
            case "ever":
                return NotWhereYesterday::ever;
            case "round":
                return NotWhereYesterday::round;
            case "lessons":
                return NotWhereYesterday::lessons;
            case "most":
                return x -> x.most(1);
            case "fresh":
                return NotWhereYesterday::fresh;
            case "often":
                return x -> x.often(0, 0);
            case "alternate":
                return x -> x.alternate(0);
            case "chairs":
                return x -> x.chairs(1);
            default:
                return silent(i);
        }
    }

    private static ToLongFunction<NotWhereYesterday> silent(int i) {
        switch (NAMES[i]) {
            case "crafts":
                return x -> x.crafts(1, 1);
            case "may":
                return x -> x.may(0, 2);
            case "beside":
                return x -> x.beside(0, 2);
            case "who":
                return x -> x.who(1, 1);
            case "free":
                return x -> x.free(NONE);
            case "can":
                return x -> x.can(1);
            case "till":
                return x -> x.till(0, 0);
            case "lasts":
                return NotWhereYesterday::lasts;
            case "met":
                return x -> x.met(1);
            case "all":
                return NotWhereYesterday::all;
            case "soon":
                return x -> x.soon(9);
            case "unlike":
                return NotWhereYesterday::unlike;
            case "count":
                return x -> x.count(5);
            default:
                return x -> x.keep(1) ? 1 : 0;
        }
    }

    private static void leavesAllButTheRow(int i) {
        Checks.part(NAMES[i]);
        NotWhereYesterday x = wall();
        NotWhereYesterday y = wall();
        if (NAMES[i].equals("keep")) {
            y.keep(1);
        }
        call(i).applyAsLong(x);
        Checks.yes("leaves all but the ROW", Whole.withoutRow(x).equals(Whole.withoutRow(y)));
        if (i >= TELLING) {
            NotWhereYesterday z = wall();
            z.broken();
            int[] told = row(z);
            call(i).applyAsLong(z);
            Checks.rowIs("tells no ROW", z, told);
        }
    }

    private static int[] row(NotWhereYesterday x) {
        int[] row = new int[x.count(6)];
        for (int k = 0; k < row.length; k++) {
            row[k] = x.row(k);
        }
        return row;
    }

    private static void leavesAnswers(int i, int j) {
        Checks.part(NAMES[i] + ", then " + NAMES[j]);
        NotWhereYesterday x = wall();
        NotWhereYesterday y = wall();
        call(i).applyAsLong(x);
        Checks.is("answer", call(j).applyAsLong(x), call(j).applyAsLong(y));
        if (j < TELLING) {
            Checks.rowIs("ROW", x, row(y));
        }
    }

    /** So that the comparing above compares rows that are told, not rows left by a call that was refused. */
    private static void everyTellingCallTells() {
        Checks.part("tells a ROW");
        for (int i = 0; i < TELLING; i++) {
            NotWhereYesterday x = wall();
            long answer = call(i).applyAsLong(x);
            boolean empty = x.count(6) == 0;
            boolean may = NAMES[i].equals("none") || NAMES[i].equals("alternate") || NAMES[i].equals("lessons");
            Checks.yes(NAMES[i] + " answered " + answer, !empty || may);
        }
    }
}
