import java.util.Arrays;

/**
 * The best filling of up to ten PEOPLE and POSTS, where trying all is too much: without BESIDE it is a matching,
 * and POSTS taken by their worth, each if all so far can still be filled, bring the most.
 */
public final class BigTest {
    private static final int NONE = NotWhereYesterday.NONE;
    private static long seed = 99;

    private final boolean[][] fits = new boolean[10][10];
    private final boolean[] must = new boolean[10];
    private int people;
    private int posts;

    private static int draw(int n) {
        seed = seed * 6364136223846793005L + 1442695040888963407L;
        return (int) ((seed >>> 33) % n);
    }

    public static void main(String[] args) {
        for (int run = 0; run < 400; run++) {
            Checks.part("run " + run);
            new BigTest().run();
        }
        Checks.end();
    }

    private void run() {
        NotWhereYesterday x = new NotWhereYesterday();
        people = 6 + draw(5);
        posts = 6 + draw(5);
        for (int a = 0; a < people; a++) {
            x.person(draw(64), 9);
        }
        for (int p = 0; p < posts; p++) {
            must[p] = draw(2) == 0;
            x.post(draw(7) - 1, must[p], 1, 0);
        }
        Checks.told(x, "w" + draw(10) + ";x" + draw(10) + "-" + draw(10) + ";a" + draw(10) + ",0-" + draw(60));
        for (int day = 0; day < 12; day++) {
            for (int p = 0; p < posts; p++) {
                int can = x.can(p);
                for (int a = 0; a < people; a++) {
                    fits[a][p] = (can >> a & 1) != 0;
                }
            }
            isBest(x);
            if (draw(2) == 0) {
                x.fill();
            } else {
                x.sheet(2, posts, draw(people), 1);
            }
            x.day();
        }
    }

    private void isBest(NotWhereYesterday x) {
        int most = greatest(new int[10], 0);
        Checks.is("best", x.best(), most);
        int[] taken = new int[10];
        for (int p = 0; p < posts; p++) {
            for (taken[p] = NONE; taken[p] < people && greatest(taken, p + 1) < most; ) {
                taken[p]++;
            }
            Checks.is("row(" + p + ")", x.row(p), taken[p]);
        }
    }

    /** The greatest WORTH if the first POSTS are taken so; -1: they can't be. */
    private int greatest(int[] taken, int first) {
        int worth = 0;
        int used = 0;
        for (int p = 0; p < first; p++) {
            if (taken[p] == NONE) {
                continue;
            }
            if ((used >> taken[p] & 1) != 0 || !fits[taken[p]][p]) {
                return -1;
            }
            used |= 1 << taken[p];
            worth += must[p] ? 1010 : 10;
        }
        int[] postOf = new int[10];
        Arrays.fill(postOf, NONE);
        for (int turn = 0; turn < 2; turn++) {
            for (int p = first; p < posts; p++) {
                if (must[p] == (turn == 0) && place(p, postOf, used, new boolean[10])) {
                    worth += must[p] ? 1010 : 10;
                }
            }
        }
        return worth;
    }

    private boolean place(int post, int[] postOf, int used, boolean[] asked) {
        for (int a = 0; a < people; a++) {
            if (fits[a][post] && (used >> a & 1) == 0 && !asked[a]) {
                asked[a] = true;
                if (postOf[a] == NONE || place(postOf[a], postOf, used, asked)) {
                    postOf[a] = post;
                    return true;
                }
            }
        }
        return false;
    }
}
