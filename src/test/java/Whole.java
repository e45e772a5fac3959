/**
 * All that an object tells of itself, as one text: made the same way, two objects tell the same, and if a call
 * changed anything in one of them, they do not. For small walls: a text takes some 300 calls at most.
 */
final class Whole {
    private final NotWhereYesterday x;
    private final StringBuilder all = new StringBuilder();

    private Whole(NotWhereYesterday x) {
        this.x = x;
    }

    static String of(NotWhereYesterday x) {
        return new Whole(x).withRow().rest();
    }

    static String withoutRow(NotWhereYesterday x) {
        return new Whole(x).rest();
    }

    private Whole withRow() {
        row("ROW", x.count(6));
        return this;
    }

    /** The calls behind the first ROW tell rows of their own; THE TEXT is read last, for that empties it. */
    private String rest() {
        for (int what = 0; what <= 7; what++) {
            if (what != 6) {
                put("count " + what, x.count(what));
            }
        }
        house();
        days();
        law();
        for (int i = 0; i < 3; i++) {
            boolean kept = x.again(i);
            put("again " + i, kept ? 1 : 0);
            if (kept) {
                days();
            }
        }
        put("rule", x.rule());
        law();
        return all.toString();
    }

    private void put(String what, int value) {
        all.append(what).append(": ").append(value).append('\n');
    }

    private void row(String what, int numbers) {
        put(what, numbers);
        for (int i = 0; i < numbers; i++) {
            all.append(' ').append(x.row(i));
        }
        all.append('\n');
    }

    private void house() {
        for (int p = 0; p < x.count(1); p++) {
            put("few " + p, x.few(p));
            row("who can " + p, x.count(6));
        }
        put("best", x.best());
        row("best", x.count(6));
    }

    private void days() {
        int today = x.count(2);
        put("today", today);
        for (int p = 0; p < x.count(1); p++) {
            for (int d = 0; d <= today; d++) {
                all.append(' ').append(x.who(d, p));
            }
            put(" works " + p, x.works(p));
            row("parts " + p, 2);
            put("till " + p, x.till(p, 0));
            put("till " + p, x.till(p, 1));
        }
        for (int a = 0; a < x.count(0); a++) {
            for (int craft = -1; craft < 6; craft++) {
                all.append(' ').append(x.crafts(a, craft));
            }
            all.append('\n');
        }
    }

    private void law() {
        put("WHERE", x.count(3));
        put("BESIDE", x.count(4));
        for (int a = 0; a < x.count(0); a++) {
            for (int p = 0; p < x.count(1); p++) {
                all.append(' ').append(x.may(a, p));
            }
            for (int b = a + 1; b < x.count(0); b++) {
                all.append(' ').append(x.beside(a, b));
            }
        }
        put(" broken", x.broken());
        row("broken", 4);
    }
}
