import java.util.NoSuchElementException;

/** Many runs of calls, drawn by a fixed row of numbers, on the class and on Plain: every answer must be the same. */
public final class AgainstPlainTest {
    private static long seed;
    private static int wrong;

    private static int draw(int n) {
        seed = seed * 6364136223846793005L + 1442695040888963407L;
        return (int) ((seed >>> 33) % n);
    }

    private static boolean odds(int of) {
        return draw(of) == 0;
    }

    private NotWhereYesterday x = new NotWhereYesterday();
    private Plain y = new Plain();
    private final StringBuilder log = new StringBuilder();
    /** Calls on the class: behind the 512th its answers are free. */
    private int asked;
    private int mostPeople;
    private int mostPosts;

    public static void main(String[] args) {
        int runs = args.length > 0 ? Integer.parseInt(args[0]) : 3000;
        for (int run = 0; run < runs && wrong < 5; run++) {
            seed = run * 7919L + 17;
            draw(5);
            new AgainstPlainTest().run(run);
        }
        for (int run = 0; run < runs / 10 && wrong < 5; run++) {
            seed = run * 104729L + 3;
            new AgainstPlainTest().runSparse(run);
        }
        System.out.println(wrong == 0 ? "as plain: " + runs + " runs" : wrong + " wrong runs");
        if (wrong != 0) {
            System.exit(1);
        }
    }

    private void run(int run) {
        chooseSizes();
        boolean told = odds(3);
        for (int i = told ? mostPeople : draw(mostPeople + 1); i > 0; i--) {
            int crafts = odds(2) ? 63 : odds(3) ? 0 : draw(64);
            int goes = 1 + draw(4);
            same("person " + crafts + " " + goes, x.person(crafts, goes), y.person(crafts, goes));
        }
        for (int i = told ? mostPosts : 0; i > 0; i--) {
            int craft = draw(8) - 2;
            same("post " + craft, x.post(craft, i % 2 == 0, i % 9 + 1, 3), y.post(craft, i % 2 == 0, i % 9 + 1, 3));
        }
        int calls = 20 + draw(100);
        for (int i = 0; i < calls && asked < 440; i++) {
            int kind = draw(60);
            if (!call(kind) || !sameState()) {
                wrong++;
                System.out.println("run " + run + ": " + log);
                return;
            }
        }
    }

    /** Up to 120 FILLINGS of which few follow each other, so that rounds are long and some ways end. */
    private void runSparse(int run) {
        int people = 4 + (odds(4) ? 0 : 1);
        int posts = people - draw(2);
        boolean fine = true;
        for (int i = 0; i < people; i++) {
            int crafts = odds(4) ? draw(64) : 63;
            fine &= same("person " + crafts, x.person(crafts, 9), y.person(crafts, 9));
        }
        for (int i = 0; i < posts; i++) {
            int craft = odds(3) ? draw(6) : -1;
            fine &= same("post " + craft, x.post(craft, true, 9, i), y.post(craft, true, 9, i));
        }
        StringBuilder t = new StringBuilder(odds(3) ? "b1" : odds(3) ? "b2" : "b0");
        t.append(odds(3) ? ";w0" : odds(2) ? ";w1" : ";w2");
        for (int i = draw(10); i > 0; i--) {
            t.append(";x").append(draw(posts)).append('-').append(draw(posts));
        }
        Checks.told(x, t.toString());
        tellPlain(t.toString());
        log.append(t).append("; ");
        fine &= x.count(3) == y.count(3) && x.count(4) == y.count(4);
        for (int i = 0; i < 2; i++) {
            fine &= same("ever", x.ever(), y.ever()) && sameState();
            fine &= same("round", x.round(), y.round()) && sameState();
            fine &= same("lasts", x.lasts(), y.lasts()) && sameState();
            if (odds(6)) {
                fine &= same("lessons", x.lessons(), y.lessons()) && sameState();
            }
            int n = odds(4) && x.count(3) > 0 ? 3 : 2;
            fine &= same("most " + n, x.most(n), y.most(n)) && sameState();
            fine &= same("fill", x.fill(), y.fill()) && same("day", x.day(), y.day());
        }
        if (!fine) {
            wrong++;
            System.out.println("sparse run " + run + ": " + log);
        }
    }

    private void tellPlain(String text) {
        for (int i = 0; i < text.length(); i += 4) {
            int v = 0;
            for (int j = i; j < i + 4; j++) {
                v = v << 8 | (j < text.length() ? text.charAt(j) : 0);
            }
            y.sign(v);
        }
        y.end(text.length());
        y.rule();
    }

    /** Trying out all FILLINGS goes only where there are few of the one or of the other. */
    private void chooseSizes() {
        mostPeople = 1 + draw(5);
        mostPosts = 1 + draw(5);
        if (odds(8)) {
            mostPeople = 1 + draw(2);
            mostPosts = 6 + draw(5);
        } else if (odds(8)) {
            mostPeople = 6 + draw(5);
            mostPosts = 1 + draw(3);
        } else if (odds(8)) {
            mostPeople = 6;
            mostPosts = 4;
        } else if (odds(8)) {
            mostPeople = 4;
            mostPosts = 6;
        }
    }

    private boolean same(String call, long got, long want) {
        asked++;
        log.append(call).append(" -> ").append(got);
        if (got != want) {
            log.append(" due ").append(want);
        }
        log.append("; ");
        return got == want;
    }

    private boolean sameState() {
        boolean all = odds(4);
        for (int i = -1; i <= 8; i++) {
            if (all || i == 6) {
                asked++;
                if (x.count(i) != y.count(i)) {
                    return same("count " + i, x.count(i), y.count(i));
                }
            }
        }
        for (int i = all ? -1 : 0; i < y.count(6) + (all ? 1 : 0); i++) {
            long a = rowOf(i, true);
            long b = rowOf(i, false);
            asked++;
            if (a != b) {
                return same("row " + i, a, b);
            }
        }
        return true;
    }

    private long rowOf(int i, boolean of) {
        try {
            return of ? x.row(i) : y.row(i);
        } catch (NoSuchElementException e) {
            return Long.MAX_VALUE;
        }
    }

    private int onePerson() {
        return draw(y.count(0) + 1) - (odds(8) ? 1 : 0);
    }

    private int onePost() {
        return draw(y.count(1) + 1) - (odds(8) ? 1 : 0);
    }

    private boolean call(int kind) {
        int a = onePerson();
        int b = onePerson();
        int p = onePost();
        int n = draw(11) - 1;
        switch (kind) {
            case 0, 1:
                if (y.count(0) >= mostPeople) {
                    return true;
                }
                int crafts = odds(20) ? draw(3) - 1 + 63 * draw(2) : draw(64);
                int goes = odds(20) ? draw(12) - 1 : 1 + draw(3);
                return same("person " + crafts + " " + goes, x.person(crafts, goes), y.person(crafts, goes));
            case 2, 3, 4:
                if (y.count(1) >= mostPosts) {
                    return true;
                }
                int craft = odds(20) ? draw(9) - 2 : odds(2) ? -1 : draw(6);
                boolean must = odds(2);
                int days = odds(20) ? draw(12) - 1 : 1 + draw(4);
                int loss = odds(20) ? draw(14) - 1 : draw(11);
                return same("post " + craft + " " + must + " " + days + " " + loss, x.post(craft, must, days, loss),
                        y.post(craft, must, days, loss));
            case 5, 6, 7, 8, 9, 10:
                return newRule();
            case 11:
                return same("crafts " + a + " " + (n - 1), x.crafts(a, n - 1), y.crafts(a, n - 1));
            case 12:
                return same("may " + a + " " + p, x.may(a, p), y.may(a, p));
            case 13:
                return same("beside " + a + " " + b, x.beside(a, b), y.beside(a, b));
            case 14, 15, 16, 17:
                return same("put " + p + " " + a, x.put(p, a), y.put(p, a));
            case 18, 19:
                return newSheet();
            case 20, 21:
                return same("good", x.good(), y.good());
            case 22, 23, 24, 25:
                return same("day", x.day(), y.day());
            case 26:
                int d = draw(y.count(2) + 2) - (odds(9) ? 1 : 0);
                return same("who " + d + " " + p, x.who(d, p), y.who(d, p));
            case 27:
                int from = draw(y.count(2) + 1) - (odds(9) ? 1 : 0);
                return same("judge " + from, x.judge(from), y.judge(from));
            case 28:
                return same("broken", x.broken(), y.broken());
            case 29:
                return same("works " + p, x.works(p), y.works(p));
            case 30:
                return same("best", x.best(), y.best());
            case 31, 32:
                return same("fill", x.fill(), y.fill());
            case 33:
                return same("ill " + a, x.ill(a), y.ill(a));
            case 34:
                int one = odds(4) ? -1 : a;
                return same("free " + one, x.free(one), y.free(one));
            default:
                return callMore(kind, a, p, n);
        }
    }

    private boolean callMore(int kind, int a, int p, int n) {
        switch (kind) {
            case 35:
                return same("worth", x.worth(), y.worth());
            case 36:
                return same("none", x.none(), y.none());
            case 37:
                return same("can " + p, x.can(p), y.can(p));
            case 38:
                int price = odds(9) ? draw(3) * 5001 - 1 : odds(2) ? draw(1200) : draw(12);
                return same("breaking " + price, x.breaking(price), y.breaking(price));
            case 39:
                return same("few " + p, x.few(p), y.few(p));
            case 40:
                int to = draw(4) - (odds(4) ? 1 : 0);
                return same("till " + p + " " + to, x.till(p, to), y.till(p, to));
            case 41:
                int what = draw(4) - (odds(4) ? 1 : 0);
                return same("law " + what + " " + n, x.law(what, n), y.law(what, n));
            case 42:
                int of = draw(4) - (odds(4) ? 1 : 0);
                return same("price " + of, x.price(of), y.price(of));
            case 43:
                return same("written", x.written(), y.written());
            case 44:
                return same("ever", x.ever(), y.ever());
            case 45:
                return !odds(3) || same("round", x.round(), y.round());
            case 46:
                return same("lasts", x.lasts(), y.lasts());
            case 47:
                return !odds(3) || same("lessons", x.lessons(), y.lessons());
            case 48:
                return anyMost();
            case 49:
                return same("fresh", x.fresh(), y.fresh());
            case 50, 51, 52:
                int of2 = draw(5) - (odds(9) ? 1 : 0);
                int times = odds(3) ? draw(62) : odds(9) ? -1 : draw(9);
                return same("go " + of2 + " " + times, x.go(of2, times), y.go(of2, times));
            case 53:
                return same("met " + a, x.met(a), y.met(a)) && same("all", x.all(), y.all());
            case 54:
                return same("soon " + (n + 1), x.soon(n + 1), y.soon(n + 1));
            case 55:
                return same("often " + a + " " + p, x.often(a, p), y.often(a, p));
            case 56:
                return same("alternate " + p, x.alternate(p), y.alternate(p));
            case 57:
                return same("chairs " + a, x.chairs(a), y.chairs(a));
            case 58:
                return same("unlike", x.unlike(), y.unlike());
            default:
                return keepOrAgain();
        }
    }

    private boolean anyMost() {
        int n = odds(9) ? draw(6) - 1 : 1 + draw(3);
        if (n == 3 && y.count(0) > 4) {
            n = 2;
        }
        return same("most " + n, x.most(n), y.most(n));
    }

    private boolean keepOrAgain() {
        int i = draw(3) + (odds(9) ? draw(5) - 2 : 0);
        if (odds(2)) {
            return same("keep " + i, x.keep(i) ? 1 : 0, y.keep(i) ? 1 : 0);
        }
        return same("again " + i, x.again(i) ? 1 : 0, y.again(i) ? 1 : 0);
    }

    private boolean newSheet() {
        int kind = odds(9) ? draw(7) - 2 : draw(4);
        int n = odds(9) ? draw(14) - 2 : draw(8);
        int f = odds(3) ? draw(4) * 256 + draw(3) : odds(5) ? draw(4) * 65536 + draw(3) : draw(6) - 1;
        int step = odds(4) ? draw(5) - 2 : odds(3) ? 257 : odds(3) ? 65537 : 1;
        return same("sheet " + kind + " " + n + " " + f + " " + step, x.sheet(kind, n, f, step),
                y.sheet(kind, n, f, step));
    }

    private boolean newRule() {
        StringBuilder t = new StringBuilder();
        int lines = odds(9) ? draw(14) : odds(9) ? 0 : 1 + draw(5);
        for (int i = 0; i < lines; i++) {
            t.append(i == 0 ? "" : ";").append(line());
        }
        if (odds(6) && t.length() > 0) {
            t.setLength(draw(t.length()) + 1);
        }
        if (odds(6) && t.length() > 0) {
            t.setCharAt(draw(t.length()), odds(9) ? (char) (128 + draw(128)) : "wbfxa,;-0123456789 W".charAt(draw(20)));
        }
        if (odds(40)) {
            x.end(0);
            y.end(0);
        }
        int left = 80 - y.count(7);
        int length = Math.min(left, t.length());
        boolean fine = true;
        for (int i = 0; i < t.length(); i += 4) {
            int v = 0;
            for (int j = 0; j < 4; j++) {
                v = v << 8 | (i + j < t.length() ? t.charAt(i + j) : draw(256));
            }
            fine &= same("sign", x.sign(v), y.sign(v));
        }
        int end = y.count(7) - (4 - t.length() % 4) % 4;
        if (odds(60)) {
            end += draw(9) - 4;
        }
        fine &= same("end " + end, x.end(end) ? 1 : 0, y.end(end) ? 1 : 0);
        if (odds(30)) {
            return fine;
        }
        return fine && same("rule '" + t + "' (" + length + ")", x.rule(), y.rule());
    }

    private String line() {
        switch (draw(9)) {
            case 0, 1, 2:
                return "w" + (odds(9) ? draw(10) : draw(4));
            case 3, 4:
                return "b" + (odds(9) ? draw(10) : draw(3));
            case 5:
                return "f" + (odds(9) ? draw(10) : draw(4));
            case 6, 7:
                return "x" + draw(5) + "-" + draw(5);
            default:
                int from = Math.max(0, y.count(2) + draw(9) - 5);
                int to = from + (odds(9) ? draw(5) - 4 : draw(30));
                to = Math.max(0, Math.min(99, to));
                return "a" + draw(6) + "," + (odds(5) && from < 10 ? "0" : "") + Math.min(99, from) + "-"
                        + (odds(5) && to < 10 ? "0" : "") + to;
        }
    }
}
