import java.util.ArrayList;
import java.util.Arrays;
import java.util.HashSet;
import java.util.List;
import java.util.NoSuchElementException;
import java.util.Set;
import java.util.function.IntPredicate;

/**
 * The document once more, by trying everything out: slow, for few PEOPLE and POSTS, and written apart from the
 * class, so that both are wrong in the same way only where the document was read wrongly.
 */
final class Plain {
    private static final int NONE = -1;

    private static final class Person {
        int crafts;
        int goes;
        int[] had = new int[6];

        Person copy() {
            Person c = new Person();
            c.crafts = crafts;
            c.goes = goes;
            c.had = had.clone();
            return c;
        }
    }

    private static final class Post {
        int craft;
        boolean must;
        int days;
        int loss;
        int done;
        int parts;
        int last = NONE;
    }

    private static final class Kept {
        int people;
        int posts;
        List<int[]> days = new ArrayList<>();
        int[] draft;
        int[][] works;
        List<Person> persons = new ArrayList<>();
    }

    private List<Person> people = new ArrayList<>();
    private final List<Post> posts = new ArrayList<>();
    private final List<Integer> text = new ArrayList<>();
    private List<int[]> days = new ArrayList<>();
    private int[] draft = new int[0];
    private int where;
    private int besideDays;
    private Set<Integer> frees = new HashSet<>();
    private List<int[]> bars = new ArrayList<>();
    private List<int[]> aways = new ArrayList<>();
    private List<Integer> row = new ArrayList<>();
    private final Kept[] kept = new Kept[3];

    private void tell(int... numbers) {
        row = new ArrayList<>();
        add(numbers);
    }

    private void add(int... numbers) {
        for (int n : numbers) {
            row.add(n);
        }
    }

    int person(int crafts, int goes) {
        if (crafts < 0 || crafts > 63 || goes < 1 || goes > 9 || people.size() == 10) {
            return NONE;
        }
        Person p = new Person();
        p.crafts = crafts;
        p.goes = goes;
        people.add(p);
        return people.size() - 1;
    }

    private static int[] longer(int[] filling) {
        int[] l = Arrays.copyOf(filling, filling.length + 1);
        l[filling.length] = NONE;
        return l;
    }

    int post(int craft, boolean must, int longDays, int loss) {
        if (craft < -1 || craft > 5 || longDays < 1 || longDays > 9 || loss < 0 || loss > 10 || posts.size() == 10) {
            return NONE;
        }
        Post p = new Post();
        p.craft = craft;
        p.must = must;
        p.days = longDays;
        p.loss = loss;
        posts.add(p);
        draft = longer(draft);
        days.replaceAll(Plain::longer);
        return posts.size() - 1;
    }

    int sign(int v) {
        if (text.size() > 76) {
            return NONE;
        }
        for (int i = 3; i >= 0; i--) {
            text.add((v >> (8 * i)) & 0xff);
        }
        return text.size();
    }

    boolean end(int n) {
        if (n < 0 || n > text.size()) {
            return false;
        }
        while (text.size() > n) {
            text.remove(text.size() - 1);
        }
        return true;
    }

    /** By what may follow: a pattern of signs per line, walked with all its ways at once. */
    int rule() {
        List<Integer> all = new ArrayList<>(text);
        text.clear();
        int n = Math.min(60, all.size());
        String line = "";
        List<String> lines = new ArrayList<>();
        for (int i = 0; i < n; i++) {
            char c = (char) (int) all.get(i);
            int low = tooLow(line);
            if (!line.isEmpty() && isWhole(line) && !canGrow(line, c)) {
                if (low >= 0) {
                    return -1 - (i - 1);
                }
                if (c != ';') {
                    return -1 - i;
                }
                lines.add(line);
                line = "";
                if (i == n - 1) {
                    return -1 - n;
                }
            } else if (canGrow(line, c)) {
                line += c;
            } else {
                return -1 - i;
            }
        }
        if (!line.isEmpty() && isWhole(line) && tooLow(line) >= 0) {
            return -1 - (n - 1);
        }
        if (all.size() > 60) {
            return -61;
        }
        if (!line.isEmpty() && !isWhole(line)) {
            return -1 - n;
        }
        if (!line.isEmpty()) {
            lines.add(line);
        }
        apply(lines);
        return lines.size();
    }

    private static boolean isWhole(String line) {
        return line.matches("[wbf][0-9]|x[0-9]-[0-9]|a[0-9],[0-9]{1,2}-[0-9]{1,2}");
    }

    private static boolean canGrow(String line, char c) {
        if (c > 127) {
            return false;
        }
        String l = line + c;
        return l.matches("[wbfxa]|[wbf][0-9]|x[0-9]|x[0-9]-|x[0-9]-[0-9]|a[0-9]|a[0-9],|a[0-9],[0-9]{1,2}"
                + "|a[0-9],[0-9]{1,2}-|a[0-9],[0-9]{1,2}-[0-9]{1,2}");
    }

    private static int tooLow(String line) {
        if (!line.startsWith("a") || !isWhole(line)) {
            return -1;
        }
        String[] d = line.substring(3).split("-");
        return Integer.parseInt(d[1]) < Integer.parseInt(d[0]) ? 0 : -1;
    }

    private void apply(List<String> lines) {
        where = 0;
        besideDays = 0;
        frees = new HashSet<>();
        bars = new ArrayList<>();
        aways = new ArrayList<>();
        for (String l : lines) {
            switch (l.charAt(0)) {
                case 'w' -> where = l.charAt(1) - '0';
                case 'b' -> besideDays = l.charAt(1) - '0';
                case 'f' -> frees.add(l.charAt(1) - '0');
                case 'x' -> bars.add(new int[] {l.charAt(1) - '0', l.charAt(3) - '0'});
                default -> {
                    String[] d = l.substring(3).split("-");
                    aways.add(new int[] {l.charAt(1) - '0', Integer.parseInt(d[0]), Integer.parseInt(d[1])});
                }
            }
        }
    }

    int crafts(int person, int craft) {
        if (noPerson(person) || craft < -1 || craft > 5) {
            return NONE;
        }
        return craft == -1 ? people.get(person).crafts : people.get(person).had[craft];
    }

    private boolean noPerson(int a) {
        return a < 0 || a >= people.size();
    }

    private boolean noPost(int p) {
        return p < 0 || p >= posts.size();
    }

    private boolean away(int a, int day) {
        return aways.stream().anyMatch(w -> w[0] == a && w[1] <= day && day <= w[2]);
    }

    private boolean wasThere(int a, int p, int day) {
        for (int i = 1; i <= where; i++) {
            if (day - i >= 0 && day - i < days.size() && days.get(day - i)[p] == a) {
                return true;
            }
        }
        return false;
    }

    private boolean fromThere(int a, int p, int day) {
        if (day == 0) {
            return false;
        }
        int[] y = days.get(day - 1);
        for (int[] b : bars) {
            if (b[1] == p && b[0] < y.length && y[b[0]] == a) {
                return true;
            }
        }
        return false;
    }

    private int why(int a, int p, int day) {
        if (away(a, day)) {
            return 1;
        }
        if (wasThere(a, p, day) && !frees.contains(p)) {
            return 2;
        }
        return fromThere(a, p, day) ? 3 : 0;
    }

    private static boolean neighbours(int[] f, int a, int b) {
        for (int p = 1; p < f.length; p++) {
            if (f[p] != NONE && f[p - 1] != NONE && (f[p - 1] == a && f[p] == b || f[p - 1] == b && f[p] == a)) {
                return true;
            }
        }
        return false;
    }

    private boolean mayMeet(int a, int b, int day) {
        for (int i = 1; i <= besideDays; i++) {
            if (day - i >= 0 && neighbours(days.get(day - i), a, b)) {
                return false;
            }
        }
        return true;
    }

    private boolean able(int a, int p) {
        int c = posts.get(p).craft;
        return c == NONE || (people.get(a).crafts & (1 << c)) != 0;
    }

    private int reason(int[] f, int p, int day, boolean crafts) {
        if (f[p] == NONE) {
            return 0;
        }
        int w = why(f[p], p, day);
        if (w > 0) {
            return w;
        }
        if (crafts && !able(f[p], p)) {
            return 4;
        }
        return p > 0 && f[p - 1] != NONE && !mayMeet(f[p - 1], f[p], day) ? 5 : 0;
    }

    private boolean isGood(int[] f, int day, boolean crafts) {
        for (int p = 0; p < f.length; p++) {
            if (reason(f, p, day, crafts) != 0) {
                return false;
            }
        }
        return true;
    }

    private int worthOf(int[] f) {
        int w = 0;
        for (int p = 0; p < f.length; p++) {
            w += f[p] == NONE ? 0 : posts.get(p).must ? 1010 : 10;
        }
        return w;
    }

    int may(int a, int p) {
        return noPerson(a) || noPost(p) ? NONE : why(a, p, days.size()) == 0 ? 1 : 0;
    }

    int beside(int a, int b) {
        return noPerson(a) || noPerson(b) || a == b ? NONE : mayMeet(a, b, days.size()) ? 1 : 0;
    }

    int put(int p, int a) {
        if (noPost(p) || a < -1 || a >= people.size()) {
            return -3;
        }
        for (int q = 0; q < draft.length; q++) {
            if (a >= 0 && q != p && draft[q] == a) {
                return -2;
            }
        }
        int had = draft[p];
        draft[p] = a;
        return had;
    }

    int sheet(int kind, int n, int f, int step) {
        if (kind < 0 || kind > 3 || n > 10) {
            return NONE;
        }
        if (kind < 3 && n < 0) {
            return -2;
        }
        int[] d = new int[posts.size()];
        Arrays.fill(d, NONE);
        Set<Integer> used = new HashSet<>();
        int value = f;
        for (int p = 0; kind < 3 && p < n && p < d.length; p++) {
            int a = kind == 0 ? (byte) value : kind == 1 ? (short) value : value;
            if (!noPerson(a) && used.add(a)) {
                d[p] = a;
            }
            value += step;
        }
        draft = d;
        return used.size();
    }

    int good() {
        tell(worthOf(draft));
        for (int p = 0; p < draft.length; p++) {
            add(reason(draft, p, days.size(), true));
        }
        return isGood(draft, days.size(), true) ? 1 : 0;
    }

    int day() {
        if (days.size() == 60) {
            return NONE;
        }
        List<int[]> lessons = new ArrayList<>();
        for (int p = 0; p < draft.length; p++) {
            int a = draft[p];
            if (a == NONE) {
                continue;
            }
            Post t = posts.get(p);
            if (!able(a, p)) {
                lessons.add(new int[] {a, t.craft});
                continue;
            }
            t.parts += 10;
            if (t.last != NONE && t.last != a) {
                t.parts -= t.loss;
            }
            t.last = a;
            if (t.parts >= 10 * t.days) {
                t.parts = 0;
                t.done++;
            }
        }
        for (int[] l : lessons) {
            Person one = people.get(l[0]);
            if (++one.had[l[1]] == one.goes) {
                one.had[l[1]] = 0;
                one.crafts |= 1 << l[1];
            }
        }
        days.add(draft);
        draft = new int[posts.size()];
        Arrays.fill(draft, NONE);
        return days.size() - 1;
    }

    int who(int day, int p) {
        if (day < 0 || day > days.size() || noPost(p)) {
            return -2;
        }
        return day == days.size() ? draft[p] : days.get(day)[p];
    }

    int judge(int from) {
        if (from < 0 || from >= days.size()) {
            return NONE;
        }
        for (int d = from; d < days.size(); d++) {
            int[] f = days.get(d);
            for (int p = 0; p < f.length; p++) {
                int r = f[p] == NONE && posts.get(p).must ? 6 : reason(f, p, d, true);
                if (r != 0) {
                    tell(p, r);
                    return d;
                }
            }
        }
        return -2;
    }

    int broken() {
        int[] often = new int[4];
        for (int d = 0; d < days.size(); d++) {
            int[] f = days.get(d);
            for (int p = 0; p < f.length; p++) {
                if (f[p] != NONE && why(f[p], p, d) > 0) {
                    often[why(f[p], p, d) - 1]++;
                }
                if (p > 0 && f[p] != NONE && f[p - 1] != NONE && !mayMeet(f[p], f[p - 1], d)) {
                    often[3]++;
                }
            }
        }
        tell(often);
        return Arrays.stream(often).sum();
    }

    int works(int p) {
        if (noPost(p)) {
            return NONE;
        }
        tell(posts.get(p).parts, posts.get(p).last);
        return posts.get(p).done;
    }

    private interface Allowed {
        boolean at(int a, int p);
    }

    /** All FILLINGS, the least row first, of those allowed. */
    private List<int[]> fillings(Allowed allowed, boolean full) {
        List<int[]> found = new ArrayList<>();
        extend(new int[posts.size()], 0, allowed, full, found);
        return found;
    }

    private void extend(int[] f, int p, Allowed allowed, boolean full, List<int[]> found) {
        if (p == f.length) {
            found.add(f.clone());
            return;
        }
        for (int a = full ? 0 : -1; a < people.size(); a++) {
            boolean used = false;
            for (int q = 0; q < p; q++) {
                used |= a != NONE && f[q] == a;
            }
            if (!used && (a == NONE || allowed.at(a, p))) {
                f[p] = a;
                extend(f, p + 1, allowed, full, found);
            }
        }
    }

    private boolean[][] meetings() {
        int n = people.size();
        boolean[][] m = new boolean[n][n];
        for (int a = 0; a < n; a++) {
            for (int b = 0; b < n; b++) {
                m[a][b] = a != b && mayMeet(a, b, days.size());
            }
        }
        return m;
    }

    private boolean[][] mays() {
        boolean[][] m = new boolean[people.size()][posts.size()];
        for (int a = 0; a < people.size(); a++) {
            for (int p = 0; p < posts.size(); p++) {
                m[a][p] = why(a, p, days.size()) == 0;
            }
        }
        return m;
    }

    private List<int[]> goodToday(IntPredicate freed, IntPredicate ill) {
        boolean[][] may = mays();
        boolean[][] meet = meetings();
        int t = days.size();
        List<int[]> all = fillings(
                (a, p) -> able(a, p) && !ill.test(a) && (may[a][p] || freed.test(a) && !away(a, t)), false);
        List<int[]> good = new ArrayList<>();
        for (int[] f : all) {
            boolean fine = true;
            for (int p = 1; p < f.length; p++) {
                int a = f[p - 1];
                int b = f[p];
                fine &= a == NONE || b == NONE || meet[a][b] || freed.test(a) || freed.test(b);
            }
            if (fine) {
                good.add(f);
            }
        }
        return good;
    }

    private int[] greatest(List<int[]> all) {
        int[] best = null;
        for (int[] f : all) {
            if (best == null || worthOf(f) > worthOf(best)) {
                best = f;
            }
        }
        return best;
    }

    private int[] bestFilling() {
        return greatest(goodToday(a -> false, a -> false));
    }

    int best() {
        int[] f = bestFilling();
        tell(f);
        return worthOf(f);
    }

    int fill() {
        draft = bestFilling();
        return worthOf(draft);
    }

    private int otherwise(int[] f) {
        int n = 0;
        for (int p = 0; p < f.length; p++) {
            n += f[p] == draft[p] ? 0 : 1;
        }
        return n;
    }

    int ill(int person) {
        if (noPerson(person)) {
            return NONE;
        }
        int[] best = null;
        for (int[] f : goodToday(a -> false, a -> a == person)) {
            if (best == null || worthOf(f) > worthOf(best)
                    || worthOf(f) == worthOf(best) && otherwise(f) < otherwise(best)) {
                best = f;
            }
        }
        tell(worthOf(best));
        add(best);
        return otherwise(best);
    }

    private int gainBy(IntPredicate freed) {
        return worthOf(greatest(goodToday(freed, a -> false))) - worthOf(bestFilling());
    }

    int free(int person) {
        if (person != NONE && noPerson(person)) {
            return NONE;
        }
        return gainBy(a -> person == NONE || a == person);
    }

    int worth() {
        if (people.isEmpty()) {
            return -2;
        }
        int one = 0;
        for (int a = 0; a < people.size(); a++) {
            if (free(a) > free(one)) {
                one = a;
            }
        }
        tell(free(one));
        return one;
    }

    int none() {
        int bestSet = 0;
        for (int s = 1; s < 1 << posts.size(); s++) {
            boolean must = true;
            for (int p = 0; p < posts.size(); p++) {
                must &= (s >> p & 1) == 0 || posts.get(p).must;
            }
            if (must && Integer.bitCount(s) > Integer.bitCount(candidates(s))
                    && (bestSet == 0 || Integer.bitCount(s) < Integer.bitCount(bestSet))) {
                bestSet = s;
            }
        }
        tell();
        if (bestSet != 0) {
            tell(bestSet, candidates(bestSet));
        }
        return Integer.bitCount(bestSet);
    }

    private int candidates(int set) {
        int c = 0;
        for (int p = 0; p < posts.size(); p++) {
            c |= (set >> p & 1) == 0 ? 0 : can(p);
        }
        return c;
    }

    int can(int p) {
        if (noPost(p)) {
            return NONE;
        }
        int c = 0;
        for (int a = 0; a < people.size(); a++) {
            c |= able(a, p) && why(a, p, days.size()) == 0 ? 1 << a : 0;
        }
        return c;
    }

    int breaking(int price) {
        if (price < 0 || price > 5000) {
            return NONE;
        }
        int t = days.size();
        boolean[][] may = mays();
        boolean[][] meet = meetings();
        int[] best = null;
        int bestNumber = 0;
        int bestOften = 0;
        for (int[] f : fillings((a, p) -> able(a, p) && !away(a, t), false)) {
            int often = 0;
            for (int p = 0; p < f.length; p++) {
                often += f[p] != NONE && !may[f[p]][p] ? 1 : 0;
                often += p > 0 && f[p] != NONE && f[p - 1] != NONE && !meet[f[p]][f[p - 1]] ? 1 : 0;
            }
            int number = worthOf(f) - price * often;
            if (best == null || number > bestNumber) {
                best = f;
                bestNumber = number;
                bestOften = often;
            }
        }
        tell(worthOf(best), bestOften);
        add(best);
        return bestNumber;
    }

    int few(int p) {
        if (noPost(p)) {
            return NONE;
        }
        int c = 0;
        for (int a = 0; a < people.size(); a++) {
            c += able(a, p) ? 1 << a : 0;
        }
        tell(c);
        int need = frees.contains(p) ? 1 : where + 1;
        return Math.max(need - Integer.bitCount(c), 0);
    }

    int till(int p, int what) {
        if (noPost(p) || what != 0 && what != 1) {
            return NONE;
        }
        Post t = posts.get(p);
        int parts = t.parts;
        boolean someone = t.last != NONE;
        for (int n = 1; n < 200; n++) {
            parts += 10;
            if (what == 0 && someone) {
                parts -= t.loss;
            }
            someone = true;
            if (parts >= 10 * t.days) {
                return n;
            }
        }
        return -2;
    }

    int law(int what, int n) {
        if (what < 0 || what > 1 || n < 0 || n > 9) {
            return NONE;
        }
        int w = where;
        int b = besideDays;
        set(what, n);
        int bad = 0;
        for (int d = 0; d < days.size(); d++) {
            bad += isGood(days.get(d), d, false) ? 0 : 1;
        }
        tell(worthOf(bestFilling()));
        where = w;
        besideDays = b;
        return bad;
    }

    private void set(int what, int n) {
        if (what == 0) {
            where = n;
        } else {
            besideDays = n;
        }
    }

    int price(int what) {
        if (what < 0 || what > 1) {
            return NONE;
        }
        int w = where;
        int b = besideDays;
        set(what, 0);
        int free = worthOf(bestFilling());
        int most = 0;
        for (int n = 1; n <= 9; n++) {
            set(what, n);
            most = worthOf(bestFilling()) == free ? n : most;
        }
        where = w;
        besideDays = b;
        tell(free);
        return most;
    }

    int written() {
        Set<List<Integer>> numbers = new HashSet<>();
        Set<Set<Integer>> pairs = new HashSet<>();
        for (int i = 1; i <= 9; i++) {
            int d = days.size() - i;
            if (d < 0) {
                break;
            }
            int[] f = days.get(d);
            for (int p = 0; p < f.length; p++) {
                if (i <= where && f[p] != NONE && !frees.contains(p)) {
                    numbers.add(List.of(f[p], p));
                }
                if (i <= besideDays && p > 0 && f[p] != NONE && f[p - 1] != NONE) {
                    pairs.add(Set.of(f[p], f[p - 1]));
                }
            }
        }
        tell(pairs.size());
        return numbers.size();
    }

    private boolean many() {
        return people.size() > 5 || posts.size() > 5;
    }

    private boolean behind(int[] ahead, int[] f) {
        for (int p = 0; p < f.length; p++) {
            if (where > 0 && ahead[p] == f[p] && !frees.contains(p)) {
                return false;
            }
            for (int[] b : bars) {
                if (b[1] == p && b[0] < ahead.length && ahead[b[0]] == f[p]) {
                    return false;
                }
            }
            if (besideDays > 0 && p > 0 && neighbours(ahead, f[p - 1], f[p])) {
                return false;
            }
        }
        return true;
    }

    private boolean[][] edges(List<int[]> nodes) {
        boolean[][] e = new boolean[nodes.size()][nodes.size()];
        for (int i = 0; i < e.length; i++) {
            for (int j = 0; j < e.length; j++) {
                e[i][j] = behind(nodes.get(i), nodes.get(j));
            }
        }
        return e;
    }

    private static int endless(boolean[][] e, boolean[] in) {
        boolean[] on = in.clone();
        boolean changed = true;
        while (changed) {
            changed = false;
            for (int i = 0; i < on.length; i++) {
                boolean some = false;
                for (int j = 0; j < on.length && on[i]; j++) {
                    some |= on[j] && e[i][j];
                }
                if (on[i] && !some) {
                    on[i] = false;
                    changed = true;
                }
            }
        }
        int n = 0;
        for (boolean o : on) {
            n += o ? 1 : 0;
        }
        return n;
    }

    int ever() {
        if (many()) {
            return -3;
        }
        List<int[]> nodes = fillings(this::able, true);
        boolean[] in = new boolean[nodes.size()];
        Arrays.fill(in, true);
        tell(nodes.size());
        return endless(edges(nodes), in);
    }

    int round() {
        if (many()) {
            return -3;
        }
        List<int[]> nodes = fillings(this::able, true);
        int n = nodes.size();
        boolean[][] e = edges(nodes);
        int far = 1000;
        int[][] dist = new int[n][n];
        for (int i = 0; i < n; i++) {
            for (int j = 0; j < n; j++) {
                dist[i][j] = e[i][j] ? 1 : far;
            }
        }
        for (int k = 0; k < n; k++) {
            for (int i = 0; i < n; i++) {
                for (int j = 0; j < n; j++) {
                    dist[i][j] = Math.min(dist[i][j], dist[i][k] + dist[k][j]);
                }
            }
        }
        int least = -1;
        for (int i = 0; i < n; i++) {
            if (dist[i][i] < far && (least < 0 || dist[i][i] < dist[least][least])) {
                least = i;
            }
        }
        if (least < 0) {
            return -2;
        }
        int len = dist[least][least];
        for (int j = 0; j < n; j++) {
            if (e[least][j] && (len == 1 ? j == least : dist[j][least] == len - 1)) {
                tell(nodes.get(least));
                add(nodes.get(j));
                return len;
            }
        }
        throw new IllegalStateException();
    }

    int lasts() {
        if (many()) {
            return -3;
        }
        List<int[]> nodes = fillings(this::able, true);
        boolean[][] e = edges(nodes);
        int[] longest = new int[nodes.size()];
        Arrays.fill(longest, 1);
        for (int k = 0; k < 20; k++) {
            int[] more = new int[nodes.size()];
            for (int i = 0; i < more.length; i++) {
                more[i] = 1;
                for (int j = 0; j < more.length; j++) {
                    more[i] = e[i][j] ? Math.max(more[i], 1 + longest[j]) : more[i];
                }
            }
            longest = more;
        }
        int most = 0;
        for (int i = 0; i < longest.length; i++) {
            if (days.isEmpty() || behind(days.get(days.size() - 1), nodes.get(i))) {
                most = Math.max(most, Math.min(20, longest[i]));
            }
        }
        return most;
    }

    int lessons() {
        if (many()) {
            return -3;
        }
        List<int[]> nodes = fillings((a, p) -> true, true);
        boolean[][] e = edges(nodes);
        if (endless(e, canAll(nodes)) > 0) {
            tell();
            return 0;
        }
        for (int a = 0; a < people.size(); a++) {
            for (int c = 0; c < 6; c++) {
                if (taught(a, c, nodes, e)) {
                    tell(a, c);
                    return 1;
                }
            }
        }
        for (int a = 0; a < people.size(); a++) {
            for (int c = 0; c < 6; c++) {
                int had = people.get(a).crafts;
                people.get(a).crafts |= 1 << c;
                for (int l = a * 6 + c + 1; l < 6 * people.size(); l++) {
                    if (taught(l / 6, l % 6, nodes, e)) {
                        people.get(a).crafts = had;
                        tell(a, c, l / 6, l % 6);
                        return 2;
                    }
                }
                people.get(a).crafts = had;
            }
        }
        return -2;
    }

    private boolean taught(int a, int c, List<int[]> nodes, boolean[][] e) {
        int had = people.get(a).crafts;
        people.get(a).crafts |= 1 << c;
        boolean does = endless(e, canAll(nodes)) > 0;
        people.get(a).crafts = had;
        return does;
    }

    private boolean[] canAll(List<int[]> nodes) {
        boolean[] in = new boolean[nodes.size()];
        for (int i = 0; i < in.length; i++) {
            in[i] = true;
            for (int p = 0; p < posts.size(); p++) {
                in[i] &= able(nodes.get(i)[p], p);
            }
        }
        return in;
    }

    private int chainBest;
    private List<int[]> chain;

    int most(int n) {
        if (n < 1 || n > 3) {
            return NONE;
        }
        if (many()) {
            return -3;
        }
        chainBest = -1;
        chain = null;
        int[] last = new int[posts.size()];
        for (int p = 0; p < last.length; p++) {
            last[p] = posts.get(p).last;
        }
        seek(n, 0, last, fillings(this::able, true), days.size());
        if (chain == null) {
            return -2;
        }
        tell();
        for (int[] f : chain) {
            add(f);
        }
        return chainBest;
    }

    private void seek(int n, int sum, int[] last, List<int[]> nodes, int from) {
        if (n == 0) {
            if (sum > chainBest) {
                chainBest = sum;
                chain = new ArrayList<>(days.subList(from, days.size()));
            }
            return;
        }
        for (int[] f : nodes) {
            if (!isGood(f, days.size(), true)) {
                continue;
            }
            int parts = 0;
            for (int p = 0; p < f.length; p++) {
                parts += 10 - (last[p] != NONE && last[p] != f[p] ? posts.get(p).loss : 0);
            }
            days.add(f);
            seek(n - 1, sum + parts, f, nodes, from);
            days.remove(days.size() - 1);
        }
    }

    int fresh() {
        if (many()) {
            return -3;
        }
        List<int[]> all = goodToday(a -> false, a -> false);
        all.removeIf(f -> days.stream().anyMatch(d -> Arrays.equals(d, f)));
        if (all.isEmpty()) {
            return -2;
        }
        int[] f = greatest(all);
        tell(f);
        return worthOf(f);
    }

    int go(int kind, int n) {
        if (kind < 0 || kind > 3 || n < 0 || n > 60 || days.size() + n > 60 || people.isEmpty()) {
            return NONE;
        }
        int bad = 0;
        int many = people.size();
        for (int i = 0; i < n; i++) {
            int d = days.size();
            int[] f = new int[posts.size()];
            Arrays.fill(f, NONE);
            for (int p = 0; p < f.length; p++) {
                if (kind == 0 && many > p) {
                    f[p] = (p + d) % many;
                } else if (kind == 1 && 2 * p + d % 2 < many) {
                    f[p] = 2 * p + d % 2;
                } else if (kind == 2 && p < many) {
                    f[p] = zig(many, d).get(p);
                }
            }
            draft = kind == 3 ? bestFilling() : f;
            bad += isGood(draft, d, true) ? 0 : 1;
            day();
        }
        return bad;
    }

    private static List<Integer> zig(int n, int d) {
        List<Integer> z = new ArrayList<>();
        for (int p = 0; p < n; p++) {
            z.add((d + (p % 2 == 0 ? p / 2 : n - (p + 1) / 2)) % n);
        }
        return z;
    }

    int met(int a) {
        if (noPerson(a)) {
            return NONE;
        }
        int bits = 0;
        for (int b = 0; b < people.size(); b++) {
            for (int[] f : days) {
                bits |= b != a && neighbours(f, a, b) ? 1 << b : 0;
            }
        }
        return bits;
    }

    int all() {
        if (people.size() < 2) {
            return NONE;
        }
        for (int n = 1; n <= days.size(); n++) {
            boolean whole = true;
            for (int a = 0; a < people.size(); a++) {
                for (int b = 0; b < a; b++) {
                    int one = a;
                    int other = b;
                    whole &= days.subList(0, n).stream().anyMatch(f -> neighbours(f, one, other));
                }
            }
            if (whole) {
                return n;
            }
        }
        return -2;
    }

    int soon(int n) {
        if (n < 2 || n > 10) {
            return NONE;
        }
        Set<Set<Integer>> pairs = new HashSet<>();
        for (int d = 0; ; d++) {
            if (pairs.size() == n * (n - 1) / 2) {
                return d;
            }
            List<Integer> z = zig(n, d);
            for (int p = 1; p < n; p++) {
                pairs.add(Set.of(z.get(p - 1), z.get(p)));
            }
        }
    }

    int often(int a, int p) {
        if (noPerson(a) || noPost(p)) {
            return NONE;
        }
        List<Integer> on = new ArrayList<>();
        for (int d = 0; d < days.size(); d++) {
            if (days.get(d)[p] == a) {
                on.add(d);
            }
        }
        if (on.size() < 2) {
            tell(0, 0);
            return on.size();
        }
        int gap = 100;
        boolean second = true;
        for (int i = 1; i < on.size(); i++) {
            gap = Math.min(gap, on.get(i) - on.get(i - 1));
            second &= on.get(i) - on.get(i - 1) == 2;
        }
        tell(gap, second ? 1 : 0);
        return on.size();
    }

    int alternate(int p) {
        if (noPost(p)) {
            return NONE;
        }
        tell();
        int t = days.size();
        int longest = 0;
        for (int n = 2; n <= t; n++) {
            boolean fine = true;
            for (int i = 1; i <= n; i++) {
                fine &= days.get(t - i)[p] != NONE;
                fine &= i == 1 || days.get(t - i)[p] != days.get(t - i + 1)[p];
                fine &= i < 3 || days.get(t - i)[p] == days.get(t - i + 2)[p];
            }
            longest = fine ? n : longest;
        }
        if (longest > 0) {
            tell(days.get(t - 1)[p], days.get(t - 2)[p]);
        }
        return longest;
    }

    int chairs(int a) {
        if (noPerson(a)) {
            return NONE;
        }
        int whole = 0;
        int mine = 0;
        for (int b = 0; b < people.size(); b++) {
            int bits = 0;
            for (int p = 0; p < posts.size(); p++) {
                for (int[] f : days) {
                    bits |= f[p] == b ? 1 << p : 0;
                }
            }
            whole += Integer.bitCount(bits) == posts.size() ? 1 : 0;
            mine = a == b ? bits : mine;
        }
        tell(whole);
        return mine;
    }

    int unlike() {
        int longest = 0;
        for (int n = 1; n <= days.size(); n++) {
            Set<List<Integer>> seen = new HashSet<>();
            for (int[] f : days.subList(days.size() - n, days.size())) {
                seen.add(Arrays.stream(f).boxed().toList());
            }
            longest = seen.size() == n ? n : longest;
        }
        return longest;
    }

    boolean keep(int i) {
        if (i < 0 || i > 2) {
            return false;
        }
        Kept k = new Kept();
        k.people = people.size();
        k.posts = posts.size();
        days.forEach(f -> k.days.add(f.clone()));
        k.draft = draft.clone();
        k.works = posts.stream().map(p -> new int[] {p.done, p.parts, p.last}).toArray(int[][]::new);
        people.forEach(p -> k.persons.add(p.copy()));
        kept[i] = k;
        return true;
    }

    boolean again(int i) {
        if (i < 0 || i > 2 || kept[i] == null || kept[i].people != people.size() || kept[i].posts != posts.size()) {
            return false;
        }
        Kept k = kept[i];
        days = new ArrayList<>();
        k.days.forEach(f -> days.add(f.clone()));
        draft = k.draft.clone();
        for (int p = 0; p < posts.size(); p++) {
            posts.get(p).done = k.works[p][0];
            posts.get(p).parts = k.works[p][1];
            posts.get(p).last = k.works[p][2];
        }
        people = new ArrayList<>();
        k.persons.forEach(p -> people.add(p.copy()));
        return true;
    }

    int count(int what) {
        return switch (what) {
            case 0 -> people.size();
            case 1 -> posts.size();
            case 2 -> days.size();
            case 3 -> where;
            case 4 -> besideDays;
            case 5 -> (int) Arrays.stream(draft).filter(a -> a != NONE).count();
            case 6 -> row.size();
            case 7 -> text.size();
            default -> NONE;
        };
    }

    int row(int i) {
        if (i < 0 || i >= row.size()) {
            throw new NoSuchElementException();
        }
        return row.get(i);
    }
}
