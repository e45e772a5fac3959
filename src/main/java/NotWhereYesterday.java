import java.util.Arrays;
import java.util.NoSuchElementException;

/** People who go round posts along a wall, never where they were yesterday. */
public final class NotWhereYesterday {
    public static final int NONE = -1;

    private static final int NO_SUCH = -2;
    private static final int TOO_MANY = -3;
    private static final int MOST = 10;
    private static final int MOST_DAYS = 60;
    private static final int MOST_SIGNS = 80;
    private static final int CRAFTS = 6;
    private static final int ROW_LENGTH = 32;
    private static final int NOT_FILLED = 6;

    private final House house = new House();
    private final Law theRule = new Law();
    private final State now = new State();
    private final State[] kept = new State[3];
    private final int[] text = new int[MOST_SIGNS];
    private final RuleReader reader = new RuleReader(text);
    private final Watch watch = new Watch(house, theRule, now);
    private final Chooser chooser = new Chooser(house, now, watch);
    private final Rounds rounds = new Rounds(house, theRule, now, watch);
    private final int[] told = new int[ROW_LENGTH];
    private final int[] bits = new int[MOST];
    private int signs;
    private int toldLength;

    public NotWhereYesterday() {
        for (int i = 0; i < kept.length; i++) {
            kept[i] = new State();
        }
    }

    // ---- the house

    public int person(int crafts, int goes) {
        if (crafts < 0 || crafts > 63 || goes < 1 || goes > 9 || house.people >= MOST) {
            return NONE;
        }
        int number = house.people;
        house.goesNeeded[number] = goes;
        now.craftsHad[number] = crafts;
        house.people = number + 1;
        return number;
    }

    public int post(int craft, boolean must, int days, int loss) {
        if (craft < NONE || craft >= CRAFTS || days < 1 || days > 9) {
            return NONE;
        }
        if (loss < 0 || loss > 10 || house.posts >= MOST) {
            return NONE;
        }
        int number = house.posts;
        house.craftOf[number] = craft;
        house.mustBeFilled[number] = must;
        house.longDays[number] = days;
        house.lossOf[number] = loss;
        house.posts = number + 1;
        return number;
    }

    public int sign(int v) {
        if (signs + 4 > MOST_SIGNS) {
            return NONE;
        }
        for (int shift = 24; shift >= 0; shift -= 8) {
            text[signs] = (v >>> shift) & 255;
            signs++;
        }
        return signs;
    }

    public boolean end(int n) {
        if (n < 0 || n > signs) {
            return false;
        }
        signs = n;
        return true;
    }

    public int rule() {
        int lines = reader.read(signs);
        signs = 0;
        if (lines >= 0) {
            theRule.become(reader.found);
        }
        return lines;
    }

    public int crafts(int person, int craft) {
        if (!house.hasPerson(person) || craft < NONE || craft >= CRAFTS) {
            return NONE;
        }
        return craft == NONE ? now.craftsHad[person] : now.goesHad[person * CRAFTS + craft];
    }

    public int may(int person, int post) {
        if (!house.hasPerson(person) || !house.hasPost(post)) {
            return NONE;
        }
        return watch.whyNot(person, post, now.today) == 0 ? 1 : 0;
    }

    public int beside(int one, int other) {
        if (!house.hasPerson(one) || !house.hasPerson(other) || one == other) {
            return NONE;
        }
        return watch.mayMeet(one, other, now.today) ? 1 : 0;
    }

    // ---- today, days that go by

    public int put(int post, int person) {
        if (!house.hasPost(post) || (person != NONE && !house.hasPerson(person))) {
            return TOO_MANY;
        }
        int at = person == NONE ? NONE : now.postOf(now.today, person);
        if (at != NONE && at != post) {
            return NO_SUCH;
        }
        int had = now.onePlaced(now.today, post);
        now.place(post, person);
        return had;
    }

    public int sheet(int kind, int n, int f, int step) {
        if (kind < 0 || kind > 3 || n > MOST) {
            return NONE;
        }
        if (kind < 3 && n < 0) {
            return NO_SUCH;
        }
        now.clearDraft();
        int entries = kind == 3 ? 0 : Math.min(n, house.posts);
        for (int p = 0; p < entries; p++) {
            int person = entry(kind, f + p * step);
            if (house.hasPerson(person) && now.postOf(now.today, person) == NONE) {
                now.place(p, person);
            }
        }
        return filledPosts();
    }

    private int entry(int kind, int value) {
        if (kind == 0) {
            return (byte) value;
        }
        return kind == 1 ? (short) value : value;
    }

    private int filledPosts() {
        int filled = 0;
        for (int p = 0; p < house.posts; p++) {
            if (now.onePlaced(now.today, p) != NONE) {
                filled++;
            }
        }
        return filled;
    }

    public int good() {
        clearRow();
        tell(watch.worthOn(now.today));
        for (int p = 0; p < house.posts; p++) {
            tell(watch.reason(now.today, p, true));
        }
        return watch.isGood(now.today, true) ? 1 : 0;
    }

    public int day() {
        if (now.today >= MOST_DAYS) {
            return NONE;
        }
        now.goBy(house);
        return now.today - 1;
    }

    public int who(int day, int post) {
        if (day < 0 || day > now.today || !house.hasPost(post)) {
            return NO_SUCH;
        }
        return now.onePlaced(day, post);
    }

    public int judge(int from) {
        if (from < 0 || from >= now.today) {
            return NONE;
        }
        for (int d = from; d < now.today; d++) {
            for (int p = 0; p < house.posts; p++) {
                int why = wrongOn(d, p);
                if (why != 0) {
                    clearRow();
                    tell(p);
                    tell(why);
                    return d;
                }
            }
        }
        return NO_SUCH;
    }

    private int wrongOn(int day, int post) {
        if (now.onePlaced(day, post) == NONE) {
            return house.mustBeFilled[post] ? NOT_FILLED : 0;
        }
        return watch.reason(day, post, true);
    }

    public int broken() {
        Arrays.fill(bits, 0);
        for (int d = 0; d < now.today; d++) {
            for (int p = 0; p < house.posts; p++) {
                int person = now.onePlaced(d, p);
                int why = person == NONE ? 0 : watch.whyNot(person, p, d);
                bits[why]++;
                if (watch.barredPair(d, p)) {
                    bits[4]++;
                }
            }
        }
        clearRow();
        int sum = 0;
        for (int i = 1; i <= 4; i++) {
            tell(bits[i]);
            sum += bits[i];
        }
        return sum;
    }

    public int works(int post) {
        if (!house.hasPost(post)) {
            return NONE;
        }
        clearRow();
        tell(now.parts[post]);
        tell(now.lastBy[post]);
        return now.done[post];
    }

    // ---- the best filling

    public int best() {
        chooser.load(Chooser.NOT_ONE, Chooser.NEVER);
        int worth = chooser.choose();
        clearRow();
        tellFilling(chooser.filling);
        return worth;
    }

    public int fill() {
        return fillDraft();
    }

    private int fillDraft() {
        chooser.load(Chooser.NOT_ONE, Chooser.NEVER);
        int worth = chooser.choose();
        for (int p = 0; p < house.posts; p++) {
            now.place(p, chooser.filling[p]);
        }
        return worth;
    }

    public int ill(int person) {
        if (!house.hasPerson(person)) {
            return NONE;
        }
        chooser.load(Chooser.NOT_ONE, Chooser.NEVER);
        chooser.preferDraft(person);
        int value = chooser.choose();
        clearRow();
        tell(value / Chooser.ABOVE_LIKENESS);
        tellFilling(chooser.filling);
        return house.posts - value % Chooser.ABOVE_LIKENESS;
    }

    public int free(int person) {
        if (person != NONE && !house.hasPerson(person)) {
            return NONE;
        }
        return bestWorth(person) - bestWorth(Chooser.NOT_ONE);
    }

    private int bestWorth(int freed) {
        chooser.load(freed, Chooser.NEVER);
        return chooser.greatest();
    }

    public int worth() {
        if (house.people == 0) {
            return NO_SUCH;
        }
        int most = NONE;
        int one = 0;
        for (int a = 0; a < house.people; a++) {
            int worth = bestWorth(a);
            if (worth > most) {
                most = worth;
                one = a;
            }
        }
        clearRow();
        tell(most - bestWorth(Chooser.NOT_ONE));
        return one;
    }

    public int none() {
        int must = 0;
        for (int p = 0; p < house.posts; p++) {
            bits[p] = watch.candidates(p);
            must |= house.mustBeFilled[p] ? 1 << p : 0;
        }
        int fewest = 0;
        int set = 0;
        for (int s = 1; s < 1 << house.posts; s++) {
            int size = Integer.bitCount(s);
            boolean fewer = fewest == 0 || size < fewest;
            if (fewer && (s & ~must) == 0 && size > Integer.bitCount(candidatesOf(s))) {
                fewest = size;
                set = s;
            }
        }
        clearRow();
        if (fewest > 0) {
            tell(set);
            tell(candidatesOf(set));
        }
        return fewest;
    }

    private int candidatesOf(int set) {
        int people = 0;
        for (int p = 0; p < house.posts; p++) {
            if ((set >> p & 1) != 0) {
                people |= bits[p];
            }
        }
        return people;
    }

    public int can(int post) {
        return house.hasPost(post) ? watch.candidates(post) : NONE;
    }

    public int breaking(int price) {
        if (price < 0 || price > 5000) {
            return NONE;
        }
        chooser.load(Chooser.NOT_ONE, price);
        int number = chooser.choose();
        clearRow();
        tell(watch.worthOf(chooser.filling));
        tell(watch.timesBroken(chooser.filling));
        tellFilling(chooser.filling);
        return number;
    }

    public int few(int post) {
        if (!house.hasPost(post)) {
            return NONE;
        }
        int able = watch.ableOnes(post);
        int needed = theRule.isFree(post) ? 1 : theRule.spans[Law.WHERE] + 1;
        clearRow();
        tell(able);
        return Math.max(0, needed - Integer.bitCount(able));
    }

    public int till(int post, int what) {
        if (!house.hasPost(post) || what < 0 || what > 1) {
            return NONE;
        }
        int whole = 10 * house.longDays[post];
        int parts = now.parts[post];
        boolean handedOn = what == 0 && now.lastBy[post] != NONE;
        for (int days = 1; days <= 1000; days++) {
            parts += handedOn ? 10 - house.lossOf[post] : 10;
            if (parts >= whole) {
                return days;
            }
            handedOn = what == 0;
        }
        return NO_SUCH;
    }

    // ---- other laws

    public int law(int what, int n) {
        if (what < 0 || what > 1 || n < 0 || n > 9) {
            return NONE;
        }
        int span = theRule.spans[what];
        theRule.spans[what] = n;
        int notGood = 0;
        for (int d = 0; d < now.today; d++) {
            if (!watch.isGood(d, false)) {
                notGood++;
            }
        }
        int worth = bestWorth(Chooser.NOT_ONE);
        theRule.spans[what] = span;
        clearRow();
        tell(worth);
        return notGood;
    }

    public int price(int what) {
        if (what < 0 || what > 1) {
            return NONE;
        }
        int without = worthWith(what, 0);
        int n = 9;
        while (n > 0 && worthWith(what, n) != without) {
            n--;
        }
        clearRow();
        tell(without);
        return n;
    }

    private int worthWith(int what, int n) {
        int span = theRule.spans[what];
        theRule.spans[what] = n;
        int worth = bestWorth(Chooser.NOT_ONE);
        theRule.spans[what] = span;
        return worth;
    }

    public int written() {
        Arrays.fill(bits, 0);
        for (int d = Math.max(0, now.today - theRule.spans[Law.WHERE]); d < now.today; d++) {
            for (int p = 0; p < house.posts; p++) {
                int person = now.onePlaced(d, p);
                if (house.hasPerson(person) && !theRule.isFree(p)) {
                    bits[p] |= 1 << person;
                }
            }
        }
        int numbers = countBits();
        Arrays.fill(bits, 0);
        for (int d = Math.max(0, now.today - theRule.spans[Law.BESIDE]); d < now.today; d++) {
            addMeetings(d);
        }
        clearRow();
        tell(countBits() / 2);
        return numbers;
    }

    private void addMeetings(int day) {
        for (int a = 0; a < house.people; a++) {
            bits[a] |= now.neighboursOf(day, a);
        }
    }

    private int countBits() {
        int sum = 0;
        for (int i = 0; i < MOST; i++) {
            sum += Integer.bitCount(bits[i]);
        }
        return sum;
    }

    // ---- for ever

    public int ever() {
        if (!rounds.isFew()) {
            return TOO_MANY;
        }
        rounds.build();
        int able = rounds.ableBits();
        rounds.useBy(able);
        int there = rounds.used();
        clearRow();
        tell(there);
        return rounds.lasting(able);
    }

    public int round() {
        if (!rounds.isFew()) {
            return TOO_MANY;
        }
        rounds.build();
        rounds.useBy(rounds.ableBits());
        int shortest = rounds.shortestRound();
        if (shortest == 0) {
            return NO_SUCH;
        }
        int next = rounds.nextOnRound(rounds.first, shortest);
        clearRow();
        tellNode(rounds.first);
        tellNode(next);
        return shortest;
    }

    public int lasts() {
        if (!rounds.isFew()) {
            return TOO_MANY;
        }
        rounds.build();
        rounds.useBy(rounds.ableBits());
        return rounds.daysFromYesterday();
    }

    public int lessons() {
        if (!rounds.isFew()) {
            return TOO_MANY;
        }
        rounds.build();
        int needed = rounds.fewestLessons();
        if (needed < 0) {
            return NO_SUCH;
        }
        clearRow();
        if (needed > 0) {
            tellLesson(rounds.first);
        }
        if (needed > 1) {
            tellLesson(rounds.second);
        }
        return needed;
    }

    private void tellLesson(int lesson) {
        tell(lesson / CRAFTS);
        tell(lesson % CRAFTS);
    }

    public int most(int n) {
        if (n < 1 || n > 3) {
            return NONE;
        }
        if (!rounds.isFew()) {
            return TOO_MANY;
        }
        rounds.build();
        int parts = rounds.mostParts(n);
        if (parts < 0) {
            return NO_SUCH;
        }
        clearRow();
        for (int k = 0; k < n; k++) {
            tellNode(rounds.bestChain[k]);
        }
        return parts;
    }

    private void tellNode(int node) {
        for (int p = 0; p < house.posts; p++) {
            tell(rounds.oneAt(node, p));
        }
    }

    public int fresh() {
        if (!rounds.isFew()) {
            return TOO_MANY;
        }
        chooser.load(Chooser.NOT_ONE, Chooser.NEVER);
        int worth = chooser.chooseUnlikeDays();
        if (worth < 0) {
            return NO_SUCH;
        }
        clearRow();
        tellFilling(chooser.filling);
        return worth;
    }

    // ---- kinds of plans

    public int go(int kind, int n) {
        if (kind < 0 || kind > 3 || n < 0 || n > MOST_DAYS - now.today || house.people == 0) {
            return NONE;
        }
        int notGood = 0;
        for (int i = 0; i < n && now.today < MOST_DAYS; i++) {
            if (kind == 3) {
                fillDraft();
            } else {
                draftByKind(kind);
            }
            if (!watch.isGood(now.today, true)) {
                notGood++;
            }
            now.goBy(house);
        }
        return notGood;
    }

    private void draftByKind(int kind) {
        for (int p = 0; p < house.posts; p++) {
            int person = oneByKind(kind, p);
            now.place(p, house.hasPerson(person) ? person : NONE);
        }
    }

    private int oneByKind(int kind, int post) {
        if (kind == 1) {
            return 2 * post + now.today % 2;
        }
        if (post >= house.people) {
            return NONE;
        }
        return kind == 0 ? (post + now.today) % house.people : zigzag(house.people, now.today, post);
    }

    private static int zigzag(int n, int day, int post) {
        if (n < 1) {
            return NONE;
        }
        int z = post % 2 == 0 ? post / 2 : n - (post + 1) / 2;
        return (day + z) % n;
    }

    public int met(int person) {
        if (!house.hasPerson(person)) {
            return NONE;
        }
        int others = 0;
        for (int d = 0; d < now.today; d++) {
            others |= now.neighboursOf(d, person);
        }
        return others;
    }

    public int all() {
        if (house.people < 2) {
            return NONE;
        }
        Arrays.fill(bits, 0);
        for (int d = 0; d < now.today; d++) {
            addMeetings(d);
            if (countBits() == house.people * (house.people - 1)) {
                return d + 1;
            }
        }
        return NO_SUCH;
    }

    public int soon(int n) {
        if (n < 2 || n > MOST) {
            return NONE;
        }
        Arrays.fill(bits, 0);
        int days = 0;
        while (days < MOST_DAYS && countBits() < n * (n - 1)) {
            for (int p = 1; p < n; p++) {
                int one = zigzag(n, days, p - 1);
                int other = zigzag(n, days, p);
                if (one >= 0 && one < MOST && other >= 0 && other < MOST) {
                    bits[one] |= 1 << other;
                    bits[other] |= 1 << one;
                }
            }
            days++;
        }
        return days;
    }

    public int often(int person, int post) {
        if (!house.hasPerson(person) || !house.hasPost(post)) {
            return NONE;
        }
        int times = 0;
        int last = 0;
        int fewest = MOST_DAYS;
        int longest = 0;
        for (int d = 0; d < now.today; d++) {
            if (now.onePlaced(d, post) == person) {
                if (times > 0) {
                    fewest = Math.min(fewest, d - last);
                    longest = Math.max(longest, d - last);
                }
                times++;
                last = d;
            }
        }
        clearRow();
        tell(times < 2 ? 0 : fewest);
        tell(times >= 2 && fewest == 2 && longest == 2 ? 1 : 0);
        return times;
    }

    public int alternate(int post) {
        if (!house.hasPost(post)) {
            return NONE;
        }
        int one = now.onePlaced(now.today - 1, post);
        int other = now.onePlaced(now.today - 2, post);
        clearRow();
        if (one == NONE || other == NONE || one == other) {
            return 0;
        }
        int days = 2;
        while (days < now.today
                && now.onePlaced(now.today - 1 - days, post) == (days % 2 == 0 ? one : other)) {
            days++;
        }
        tell(one);
        tell(other);
        return days;
    }

    public int chairs(int person) {
        if (!house.hasPerson(person)) {
            return NONE;
        }
        int everywhere = 0;
        for (int a = 0; a < house.people; a++) {
            if (chairsOf(a) == (1 << house.posts) - 1) {
                everywhere++;
            }
        }
        clearRow();
        tell(everywhere);
        return chairsOf(person);
    }

    private int chairsOf(int person) {
        int posts = 0;
        for (int d = 0; d < now.today; d++) {
            int post = now.postOf(d, person);
            posts |= post == NONE ? 0 : 1 << post;
        }
        return posts;
    }

    public int unlike() {
        int days = 0;
        while (days < now.today && !comesAgain(now.today - 1 - days)) {
            days++;
        }
        return days;
    }

    private boolean comesAgain(int day) {
        for (int d = day + 1; d < now.today; d++) {
            if (now.sameDays(day, d)) {
                return true;
            }
        }
        return false;
    }

    // ---- kept

    public boolean keep(int i) {
        if (i < 0 || i >= kept.length) {
            return false;
        }
        kept[i].become(now);
        kept[i].keptPeople = house.people;
        kept[i].keptPosts = house.posts;
        return true;
    }

    public boolean again(int i) {
        if (i < 0 || i >= kept.length) {
            return false;
        }
        if (kept[i].keptPeople != house.people || kept[i].keptPosts != house.posts) {
            return false;
        }
        now.become(kept[i]);
        return true;
    }

    public int count(int what) {
        switch (what) {
            case 0:
                return house.people;
            case 1:
                return house.posts;
            case 2:
                return now.today;
            case 3:
                return theRule.spans[Law.WHERE];
            case 4:
                return theRule.spans[Law.BESIDE];
            case 5:
                return filledPosts();
            case 6:
                return toldLength;
            case 7:
                return signs;
            default:
                return NONE;
        }
    }

    public int row(int i) throws NoSuchElementException {
        if (i < 0 || i >= toldLength) {
            throw new NoSuchElementException();
        }
        return told[i];
    }

    private void clearRow() {
        toldLength = 0;
    }

    private void tell(int number) {
        if (toldLength < told.length) {
            told[toldLength] = number;
            toldLength++;
        }
    }

    private void tellFilling(int[] filling) {
        for (int p = 0; p < house.posts; p++) {
            tell(filling[p]);
        }
    }

    /** PEOPLE and POSTS as they were told; what they learn and do stands in State. */
    private static final class House {
        int people;
        int posts;
        final int[] goesNeeded = new int[MOST];
        final int[] craftOf = new int[MOST];
        final boolean[] mustBeFilled = new boolean[MOST];
        final int[] longDays = new int[MOST];
        final int[] lossOf = new int[MOST];

        boolean hasPerson(int person) {
            return person >= 0 && person < people;
        }

        boolean hasPost(int post) {
            return post >= 0 && post < posts;
        }

        int worthOfPost(int post) {
            return mustBeFilled[post] ? 1010 : 10;
        }
    }

    /** THE RULE: its numbers may name PEOPLE and POSTS that are not there yet. */
    private static final class Law {
        static final int WHERE = 0;
        static final int BESIDE = 1;
        private static final int RULE_DAYS = 100;

        final int[] spans = new int[2];
        private final int[] barredTo = new int[MOST];
        private final int[] away = new int[MOST * RULE_DAYS];
        private int freePosts;

        void clear() {
            Arrays.fill(spans, 0);
            Arrays.fill(barredTo, 0);
            Arrays.fill(away, 0);
            freePosts = 0;
        }

        void become(Law other) {
            System.arraycopy(other.spans, 0, spans, 0, spans.length);
            System.arraycopy(other.barredTo, 0, barredTo, 0, barredTo.length);
            System.arraycopy(other.away, 0, away, 0, away.length);
            freePosts = other.freePosts;
        }

        void setFree(int post) {
            freePosts |= 1 << post;
        }

        void bar(int from, int to) {
            if (from >= 0 && from < MOST) {
                barredTo[from] |= 1 << to;
            }
        }

        void sendAway(int person, int from, int to) {
            for (int d = from; d <= to && d < RULE_DAYS; d++) {
                if (d >= 0 && person >= 0 && person < MOST) {
                    away[person * RULE_DAYS + d] = 1;
                }
            }
        }

        boolean isFree(int post) {
            return (freePosts >> post & 1) != 0;
        }

        boolean bars(int from, int to) {
            return from >= 0 && from < MOST && (barredTo[from] >> to & 1) != 0;
        }

        boolean isAway(int person, int day) {
            if (person < 0 || person >= MOST || day < 0 || day >= RULE_DAYS) {
                return false;
            }
            return away[person * RULE_DAYS + day] != 0;
        }
    }

    /** Reads THE TEXT into a rule of its own, so that a wrong text leaves THE RULE as it is. */
    private static final class RuleReader {
        private static final int MOST_READ = 60;

        final Law found = new Law();
        private final int[] text;
        private int end;
        private int at;

        RuleReader(int[] text) {
            this.text = text;
        }

        /** How many LINES, or -1 - p. */
        int read(int length) {
            found.clear();
            at = 0;
            end = Math.min(length, Math.min(MOST_READ, text.length));
            int lines = 0;
            boolean more = length > 0;
            for (int i = 0; i < MOST_READ && more; i++) {
                if (!readLine()) {
                    return -1 - at;
                }
                lines++;
                more = at < end;
                if (more && !take(';')) {
                    return -1 - at;
                }
            }
            return length > MOST_READ ? -1 - MOST_READ : lines;
        }

        private boolean readLine() {
            if (take('w')) {
                return readSpan(Law.WHERE);
            }
            if (take('b')) {
                return readSpan(Law.BESIDE);
            }
            if (take('f')) {
                return readFree();
            }
            if (take('x')) {
                return readBar();
            }
            return take('a') && readAway();
        }

        private boolean readSpan(int what) {
            int days = digit();
            if (days < 0) {
                return false;
            }
            found.spans[what] = days;
            return true;
        }

        private boolean readFree() {
            int post = digit();
            if (post < 0) {
                return false;
            }
            found.setFree(post);
            return true;
        }

        private boolean readBar() {
            int from = digit();
            if (from < 0 || !take('-')) {
                return false;
            }
            int to = digit();
            if (to < 0) {
                return false;
            }
            found.bar(from, to);
            return true;
        }

        private boolean readAway() {
            int person = digit();
            if (person < 0 || !take(',')) {
                return false;
            }
            int from = oneOrTwoDigits();
            if (from < 0 || !take('-')) {
                return false;
            }
            int to = oneOrTwoDigits();
            if (to < 0) {
                return false;
            }
            if (to < from) {
                // the wrong sign is the last digit of the DAY, not the sign behind it
                at--;
                return false;
            }
            found.sendAway(person, from, to);
            return true;
        }

        private boolean take(int sign) {
            if (at >= 0 && at < end && text[at] == sign) {
                at++;
                return true;
            }
            return false;
        }

        private int digit() {
            if (at < 0 || at >= end || text[at] < '0' || text[at] > '9') {
                return NONE;
            }
            int value = text[at] - '0';
            at++;
            return value;
        }

        private int oneOrTwoDigits() {
            int first = digit();
            if (first < 0) {
                return NONE;
            }
            int second = digit();
            return second < 0 ? first : 10 * first + second;
        }
    }

    /** All that a DAY changes. Row TODAY of the days is THE DRAFT; the rows behind it are all NONE. */
    private static final class State {
        final int[] days = new int[(MOST_DAYS + 1) * MOST];
        final int[] done = new int[MOST];
        final int[] parts = new int[MOST];
        final int[] lastBy = new int[MOST];
        final int[] craftsHad = new int[MOST];
        final int[] goesHad = new int[MOST * CRAFTS];
        int today;
        int keptPeople = NONE;
        int keptPosts = NONE;

        State() {
            Arrays.fill(days, NONE);
            Arrays.fill(lastBy, NONE);
        }

        void become(State other) {
            System.arraycopy(other.days, 0, days, 0, days.length);
            System.arraycopy(other.done, 0, done, 0, done.length);
            System.arraycopy(other.parts, 0, parts, 0, parts.length);
            System.arraycopy(other.lastBy, 0, lastBy, 0, lastBy.length);
            System.arraycopy(other.craftsHad, 0, craftsHad, 0, craftsHad.length);
            System.arraycopy(other.goesHad, 0, goesHad, 0, goesHad.length);
            today = other.today;
        }

        int onePlaced(int day, int post) {
            if (day < 0 || day > MOST_DAYS || post < 0 || post >= MOST) {
                return NONE;
            }
            return days[day * MOST + post];
        }

        int postOf(int day, int person) {
            if (day < 0 || day > MOST_DAYS) {
                return NONE;
            }
            for (int p = 0; p < MOST; p++) {
                if (days[day * MOST + p] == person) {
                    return p;
                }
            }
            return NONE;
        }

        int neighboursOf(int day, int person) {
            int post = postOf(day, person);
            if (post == NONE) {
                return 0;
            }
            return bitOf(onePlaced(day, post - 1)) | bitOf(onePlaced(day, post + 1));
        }

        private static int bitOf(int person) {
            return person < 0 ? 0 : 1 << person;
        }

        boolean sameDays(int one, int other) {
            for (int p = 0; p < MOST; p++) {
                if (onePlaced(one, p) != onePlaced(other, p)) {
                    return false;
                }
            }
            return true;
        }

        /** A POST of THE DRAFT. */
        void place(int post, int person) {
            if (post >= 0 && post < MOST && today >= 0 && today <= MOST_DAYS) {
                days[today * MOST + post] = person;
            }
        }

        void clearDraft() {
            for (int p = 0; p < MOST; p++) {
                place(p, NONE);
            }
        }

        boolean isAble(House house, int person, int post) {
            int craft = house.craftOf[post];
            return craft < 0 || (craftsHad[person] >> craft & 1) != 0;
        }

        /** THE DRAFT goes by as a DAY; the row behind it is the empty draft. */
        void goBy(House house) {
            if (today >= MOST_DAYS) {
                return;
            }
            for (int p = 0; p < house.posts; p++) {
                int person = onePlaced(today, p);
                if (house.hasPerson(person)) {
                    if (isAble(house, person, p)) {
                        work(house, person, p);
                    } else {
                        learn(house, person, house.craftOf[p]);
                    }
                }
            }
            today++;
        }

        private void work(House house, int person, int post) {
            boolean handedOn = lastBy[post] != NONE && lastBy[post] != person;
            parts[post] += handedOn ? 10 - house.lossOf[post] : 10;
            lastBy[post] = person;
            if (parts[post] >= 10 * house.longDays[post]) {
                parts[post] = 0;
                done[post]++;
            }
        }

        private void learn(House house, int person, int craft) {
            int place = person * CRAFTS + craft;
            if (craft < 0 || craft >= CRAFTS) {
                return;
            }
            goesHad[place]++;
            if (goesHad[place] >= house.goesNeeded[person]) {
                goesHad[place] = 0;
                craftsHad[person] |= 1 << craft;
            }
        }
    }

    /** Who may be where and beside whom, by THE RULE and the DAYS ahead. */
    private static final class Watch {
        static final int AWAY = 1;
        private static final int WAS_THERE = 2;
        private static final int FROM_THERE = 3;
        private static final int NOT_ABLE = 4;
        private static final int BAD_NEIGHBOURS = 5;

        private final House house;
        private final Law law;
        private final State now;

        Watch(House house, Law law, State now) {
            this.house = house;
            this.law = law;
            this.now = now;
        }

        /** Why one may not be at a POST on a DAY, 0 if it may; of a DAY behind TODAY by those that went by. */
        int whyNot(int person, int post, int day) {
            if (law.isAway(person, day)) {
                return AWAY;
            }
            int until = Math.min(day, now.today);
            if (!law.isFree(post)) {
                for (int d = Math.max(0, day - law.spans[Law.WHERE]); d < until; d++) {
                    if (now.onePlaced(d, post) == person) {
                        return WAS_THERE;
                    }
                }
            }
            if (day > 0 && day <= now.today && law.bars(now.postOf(day - 1, person), post)) {
                return FROM_THERE;
            }
            return 0;
        }

        boolean mayMeet(int one, int other, int day) {
            return (metLately(one, day) >> other & 1) == 0;
        }

        /** With whom one was NEIGHBOURS on the BESIDE DAYS ahead (bits). */
        int metLately(int person, int day) {
            int until = Math.min(day, now.today);
            int others = 0;
            for (int d = Math.max(0, day - law.spans[Law.BESIDE]); d < until; d++) {
                others |= now.neighboursOf(d, person);
            }
            return others;
        }

        boolean isAble(int person, int post) {
            return now.isAble(house, person, post);
        }

        /** Whether the one at a POST and the one at the POST ahead may not be NEIGHBOURS. */
        boolean barredPair(int day, int post) {
            int one = now.onePlaced(day, post - 1);
            int other = now.onePlaced(day, post);
            return one != NONE && other != NONE && (metLately(one, day) >> other & 1) != 0;
        }

        int reason(int day, int post, boolean withCrafts) {
            int person = now.onePlaced(day, post);
            if (!house.hasPerson(person)) {
                return 0;
            }
            int why = whyNot(person, post, day);
            if (why != 0) {
                return why;
            }
            if (withCrafts && !isAble(person, post)) {
                return NOT_ABLE;
            }
            return barredPair(day, post) ? BAD_NEIGHBOURS : 0;
        }

        boolean isGood(int day, boolean withCrafts) {
            for (int p = 0; p < house.posts; p++) {
                if (reason(day, p, withCrafts) != 0) {
                    return false;
                }
            }
            return true;
        }

        int worthOn(int day) {
            int worth = 0;
            for (int p = 0; p < house.posts; p++) {
                worth += now.onePlaced(day, p) == NONE ? 0 : house.worthOfPost(p);
            }
            return worth;
        }

        int worthOf(int[] filling) {
            int worth = 0;
            for (int p = 0; p < house.posts && p < filling.length; p++) {
                worth += filling[p] == NONE ? 0 : house.worthOfPost(p);
            }
            return worth;
        }

        /** How often a FILLING for TODAY breaks THE RULE. */
        int timesBroken(int[] filling) {
            int times = 0;
            int ahead = NONE;
            for (int p = 0; p < house.posts && p < filling.length; p++) {
                int person = filling[p];
                if (person != NONE && whyNot(person, p, now.today) != 0) {
                    times++;
                }
                if (person != NONE && ahead != NONE && !mayMeet(ahead, person, now.today)) {
                    times++;
                }
                ahead = person;
            }
            return times;
        }

        int ableOnes(int post) {
            int people = 0;
            for (int a = 0; a < house.people; a++) {
                people |= isAble(a, post) ? 1 << a : 0;
            }
            return people;
        }

        /** Who may and can be at a POST TODAY (bits). */
        int candidates(int post) {
            int people = 0;
            for (int a = 0; a < house.people; a++) {
                boolean allowed = isAble(a, post) && whyNot(a, post, now.today) == 0;
                people |= allowed ? 1 << a : 0;
            }
            return people;
        }
    }

    /** The FILLING of the greatest value, POST by POST over who is used already and who stands last. */
    private static final class Chooser {
        static final int NOT_ONE = -2;
        static final int NEVER = -1;
        static final int ABOVE_LIKENESS = 16;
        private static final int BARRED = -1000000;
        private static final int NOBODY = MOST;
        private static final int WIDTH = MOST + 1;
        private static final int SETS = 1 << MOST;
        private static final int VALUE_BITS = 18;
        private static final int LAST_STAMP = 8191;

        final int[] filling = new int[MOST];
        private final House house;
        private final State now;
        private final Watch watch;
        private final int[] score = new int[MOST * MOST];
        private final int[] together = new int[MOST * MOST];
        private final int[] blank = new int[MOST];
        private final int[] ceiling = new int[WIDTH * WIDTH];
        private final int[] known = new int[MOST * SETS * WIDTH];
        private final int[] trial = new int[MOST];
        private int stamp;
        private int found;

        Chooser(House house, State now, Watch watch) {
            this.house = house;
            this.now = now;
            this.watch = watch;
        }

        /** What each one is worth at each POST TODAY; freed: one, NONE for all, NOT_ONE; price: NEVER to break. */
        void load(int freed, int price) {
            for (int p = 0; p < house.posts; p++) {
                blank[p] = 0;
                for (int a = 0; a < house.people; a++) {
                    score[p * MOST + a] = scoreOf(a, p, freed, price);
                }
            }
            for (int a = 0; a < house.people; a++) {
                int others = watch.metLately(a, now.today);
                for (int b = 0; b < house.people; b++) {
                    boolean fine = (others >> b & 1) == 0 || freed == NONE || freed == a || freed == b;
                    together[a * MOST + b] = fine ? 0 : price == NEVER ? BARRED : -price;
                }
            }
        }

        private int scoreOf(int person, int post, int freed, int price) {
            if (!watch.isAble(person, post)) {
                return BARRED;
            }
            int worth = house.worthOfPost(post);
            int why = watch.whyNot(person, post, now.today);
            if (why == Watch.AWAY) {
                return BARRED;
            }
            if (why == 0 || freed == NONE || freed == person) {
                return worth;
            }
            return price == NEVER ? BARRED : worth - price;
        }

        /** Of equal WORTH that which is most like THE DRAFT; one more is away. */
        void preferDraft(int ill) {
            for (int p = 0; p < house.posts; p++) {
                int drafted = now.onePlaced(now.today, p);
                blank[p] = drafted == NONE ? 1 : 0;
                for (int a = 0; a < house.people; a++) {
                    int place = p * MOST + a;
                    if (a == ill) {
                        score[place] = BARRED;
                    } else if (score[place] != BARRED) {
                        score[place] = score[place] * ABOVE_LIKENESS + (drafted == a ? 1 : 0);
                    }
                }
            }
        }

        int greatest() {
            raiseCeiling();
            stamp++;
            if (stamp > LAST_STAMP) {
                Arrays.fill(known, 0);
                stamp = 1;
            }
            return value(0, 0, NOBODY);
        }

        /** The greatest value; its least row stands in the filling. */
        int choose() {
            int total = greatest();
            int due = total;
            int used = 0;
            int last = NOBODY;
            for (int p = 0; p < house.posts; p++) {
                int one = leastOne(p, used, last, due);
                filling[p] = one;
                if (one == NONE) {
                    due -= blank[p];
                    last = NOBODY;
                } else {
                    due -= gain(p, one, last);
                    used |= 1 << one;
                    last = one;
                }
            }
            return total;
        }

        private int leastOne(int post, int used, int last, int due) {
            if (blank[post] + value(post + 1, used, NOBODY) == due) {
                return NONE;
            }
            for (int a = 0; a < house.people; a++) {
                int gain = (used >> a & 1) != 0 ? BARRED : gain(post, a, last);
                if (gain != BARRED && gain + value(post + 1, used | 1 << a, a) == due) {
                    return a;
                }
            }
            return NONE;
        }

        private int gain(int post, int person, int last) {
            int alone = score[post * MOST + person];
            if (alone == BARRED || last < 0 || last >= MOST) {
                return alone;
            }
            int beside = together[last * MOST + person];
            return beside == BARRED ? BARRED : alone + beside;
        }

        /** What POSTS from one on could bring at most to so many people, whoever may be where. */
        private void raiseCeiling() {
            for (int k = 0; k <= MOST; k++) {
                ceiling[house.posts * WIDTH + k] = 0;
            }
            for (int p = house.posts - 1; p >= 0; p--) {
                int top = blank[p];
                for (int a = 0; a < house.people; a++) {
                    top = Math.max(top, score[p * MOST + a]);
                }
                for (int k = 0; k <= MOST; k++) {
                    int without = blank[p] + ceiling[(p + 1) * WIDTH + k];
                    int with = k == 0 ? without : top + ceiling[(p + 1) * WIDTH + k - 1];
                    ceiling[p * WIDTH + k] = Math.max(without, with);
                }
            }
        }

        /** The greatest value of POSTS from one on; what is known of this search bears its stamp. */
        private int value(int post, int used, int last) {
            if (post < 0 || post >= house.posts || used < 0 || used >= SETS) {
                return 0;
            }
            int place = (post * SETS + used) * WIDTH + last;
            if (place < 0 || place >= known.length) {
                return 0;
            }
            if (known[place] >>> VALUE_BITS == stamp) {
                return known[place] & ((1 << VALUE_BITS) - 1);
            }
            int left = house.people - Integer.bitCount(used);
            int most = -1;
            for (int a = 0; a < house.people && left > 0; a++) {
                int gain = (used >> a & 1) != 0 ? BARRED : gain(post, a, last);
                if (gain != BARRED && gain + ceiling[(post + 1) * WIDTH + left - 1] > most) {
                    most = Math.max(most, gain + value(post + 1, used | 1 << a, a));
                }
            }
            if (left >= 0 && blank[post] + ceiling[(post + 1) * WIDTH + left] > most) {
                most = Math.max(most, blank[post] + value(post + 1, used, NOBODY));
            }
            known[place] = stamp << VALUE_BITS | most;
            return most;
        }

        /** Likewise of FILLINGS that were on no DAY; -1: none. */
        int chooseUnlikeDays() {
            raiseCeiling();
            found = -1;
            tryFrom(0, 0, NOBODY, 0);
            return found;
        }

        private void tryFrom(int post, int used, int last, int sum) {
            if (post >= house.posts || post >= MOST) {
                if (sum > found && wasOnNoDay()) {
                    found = sum;
                    System.arraycopy(trial, 0, filling, 0, trial.length);
                }
                return;
            }
            int left = house.people - Integer.bitCount(used);
            if (left < 0 || sum + ceiling[post * WIDTH + left] <= found) {
                return;
            }
            trial[post] = NONE;
            tryFrom(post + 1, used, NOBODY, sum);
            for (int a = 0; a < house.people; a++) {
                int gain = (used >> a & 1) != 0 ? BARRED : gain(post, a, last);
                if (gain != BARRED) {
                    trial[post] = a;
                    tryFrom(post + 1, used | 1 << a, a, sum + gain);
                }
            }
        }

        private boolean wasOnNoDay() {
            for (int d = 0; d < now.today; d++) {
                boolean same = true;
                for (int p = 0; p < house.posts && same; p++) {
                    same = now.onePlaced(d, p) == trial[p];
                }
                if (same) {
                    return false;
                }
            }
            return true;
        }
    }

    /** FILLINGS of all POSTS, in the order of their rows, and which can come behind which. */
    private static final class Rounds {
        private static final int FEW = 5;
        private static final int NODES = 120;
        private static final int LONGEST = 20;
        private static final int MOST_AHEAD = 3;

        int first;
        int second;
        final int[] bestChain = new int[MOST_AHEAD];
        private final House house;
        private final Law law;
        private final State now;
        private final Watch watch;
        private final int[] ones = new int[NODES * FEW];
        private final int[] at = new int[NODES];
        private final int[] near = new int[NODES];
        private final Marks[] next = new Marks[NODES];
        private final Marks use = new Marks();
        private final Marks front = new Marks();
        private final Marks seen = new Marks();
        private final Marks step = new Marks();
        private final Marks[] fit = new Marks[MOST_AHEAD];
        private final int[] hope = new int[MOST_AHEAD * NODES];
        private final int[] chain = new int[MOST_AHEAD];
        private int nodes;
        private int mostFound;

        Rounds(House house, Law law, State now, Watch watch) {
            this.house = house;
            this.law = law;
            this.now = now;
            this.watch = watch;
            for (int i = 0; i < NODES; i++) {
                next[i] = new Marks();
            }
            for (int k = 0; k < MOST_AHEAD; k++) {
                fit[k] = new Marks();
            }
        }

        boolean isFew() {
            return house.people <= FEW && house.posts <= FEW;
        }

        int oneAt(int node, int post) {
            if (node < 0 || node >= NODES || post < 0 || post >= FEW) {
                return NONE;
            }
            return ones[node * FEW + post];
        }

        /** All FILLINGS of all POSTS, whoever CAN, and which may follow which. */
        void build() {
            nodes = 0;
            addFrom(0, 0);
            for (int i = 0; i < nodes; i++) {
                at[i] = placesOf(i);
                near[i] = pairsOf(i);
            }
            for (int i = 0; i < nodes; i++) {
                int barred = barredBehind(i);
                next[i].clear();
                for (int j = 0; j < nodes; j++) {
                    boolean meet = law.spans[Law.BESIDE] > 0 && (near[i] & near[j]) != 0;
                    if ((barred & at[j]) == 0 && !meet) {
                        next[i].add(j);
                    }
                }
            }
        }

        private void addFrom(int post, int used) {
            if (nodes >= NODES) {
                return;
            }
            if (post >= house.posts || post >= FEW) {
                nodes++;
                if (nodes < NODES) {
                    System.arraycopy(ones, (nodes - 1) * FEW, ones, nodes * FEW, FEW);
                }
                return;
            }
            for (int a = 0; a < house.people && nodes < NODES; a++) {
                if ((used >> a & 1) == 0) {
                    ones[nodes * FEW + post] = a;
                    addFrom(post + 1, used | 1 << a);
                }
            }
        }

        private static int placeBit(int person, int post) {
            return person < 0 ? 0 : 1 << (post * FEW + person);
        }

        private static int pairBit(int one, int other) {
            if (one < 0 || other < 0) {
                return 0;
            }
            return 1 << (Math.min(one, other) * FEW + Math.max(one, other));
        }

        private int placesOf(int node) {
            int places = 0;
            for (int p = 0; p < house.posts; p++) {
                places |= placeBit(oneAt(node, p), p);
            }
            return places;
        }

        private int pairsOf(int node) {
            int pairs = 0;
            for (int p = 1; p < house.posts; p++) {
                pairs |= pairBit(oneAt(node, p - 1), oneAt(node, p));
            }
            return pairs;
        }

        private int barredBehind(int node) {
            int places = 0;
            for (int p = 0; p < house.posts; p++) {
                places |= placesBarredTo(oneAt(node, p), p);
            }
            return places;
        }

        /** Where one may not be the DAY behind one at a POST. */
        private int placesBarredTo(int person, int post) {
            int places = 0;
            if (law.spans[Law.WHERE] > 0 && !law.isFree(post)) {
                places = placeBit(person, post);
            }
            for (int p = 0; p < house.posts; p++) {
                if (law.bars(post, p)) {
                    places |= placeBit(person, p);
                }
            }
            return places;
        }

        int ableBits() {
            int able = 0;
            for (int p = 0; p < house.posts; p++) {
                for (int a = 0; a < house.people; a++) {
                    able |= watch.isAble(a, p) ? placeBit(a, p) : 0;
                }
            }
            return able;
        }

        /** The FILLINGS in use are those by such as CAN. */
        void useBy(int able) {
            use.clear();
            for (int i = 0; i < nodes; i++) {
                if ((at[i] & ~able) == 0) {
                    use.add(i);
                }
            }
        }

        int used() {
            return use.size();
        }

        /** From how many FILLINGS by such as CAN one can go on for ever. */
        int lasting(int able) {
            useBy(able);
            boolean changed = true;
            for (int turn = 0; turn <= NODES && changed; turn++) {
                changed = false;
                for (int i = 0; i < nodes; i++) {
                    if (use.has(i) && !next[i].meets(use)) {
                        use.remove(i);
                        changed = true;
                    }
                }
            }
            return use.size();
        }

        /** The length of the shortest round, first being the least on one; 0: none. */
        int shortestRound() {
            int shortest = 0;
            for (int i = 0; i < nodes; i++) {
                int length = use.has(i) ? stepsTo(i, i) : 0;
                if (length > 0 && (shortest == 0 || length < shortest)) {
                    shortest = length;
                    first = i;
                }
            }
            return shortest;
        }

        int nextOnRound(int from, int length) {
            for (int j = 0; j < nodes; j++) {
                if (use.has(j) && next[from].has(j)) {
                    if (length == 1 ? j == from : stepsTo(j, from) == length - 1) {
                        return j;
                    }
                }
            }
            return from;
        }

        /** The fewest steps (1 at least) over FILLINGS in use; 0: never. */
        private int stepsTo(int from, int to) {
            seen.clear();
            front.become(next[from]);
            front.keepOnly(use);
            for (int steps = 1; steps <= NODES; steps++) {
                if (front.has(to)) {
                    return steps;
                }
                if (front.size() == 0) {
                    return 0;
                }
                seen.addAll(front);
                advance();
                front.dropAll(seen);
            }
            return 0;
        }

        private void advance() {
            step.clear();
            for (int i = 0; i < nodes; i++) {
                if (front.has(i)) {
                    step.addAll(next[i]);
                }
            }
            step.keepOnly(use);
            front.become(step);
        }

        int daysFromYesterday() {
            front.become(use);
            if (now.today > 0) {
                keepBehindYesterday();
            }
            for (int days = 0; days < LONGEST; days++) {
                if (front.size() == 0) {
                    return days;
                }
                advance();
            }
            return LONGEST;
        }

        private void keepBehindYesterday() {
            int barred = 0;
            int met = 0;
            for (int p = 0; p < house.posts; p++) {
                int person = now.onePlaced(now.today - 1, p);
                barred |= placesBarredTo(person, p);
                met |= pairBit(now.onePlaced(now.today - 1, p - 1), person);
            }
            if (law.spans[Law.BESIDE] == 0) {
                met = 0;
            }
            for (int i = 0; i < nodes; i++) {
                if ((at[i] & barred) != 0 || (near[i] & met) != 0) {
                    front.remove(i);
                }
            }
        }

        /** 0 .. 2 LESSONS, numbered by one and CRAFT; -1: two do not do. */
        int fewestLessons() {
            int able = ableBits();
            if (lasting(able) > 0) {
                return 0;
            }
            int lessons = house.people * CRAFTS;
            for (int one = 0; one < lessons; one++) {
                int more = lessonBits(one) & ~able;
                if (more != 0 && lasting(able | more) > 0) {
                    first = one;
                    return 1;
                }
            }
            for (int one = 0; one < lessons; one++) {
                if ((lessonBits(one) & ~able) != 0 && addsUp(one, lessons, able)) {
                    first = one;
                    return 2;
                }
            }
            return -1;
        }

        /** Whether a LESSON does with another one behind it, which is second then. */
        private boolean addsUp(int one, int lessons, int able) {
            int more = able | lessonBits(one);
            for (int other = one + 1; other < lessons; other++) {
                int both = more | lessonBits(other);
                if (both != more && lasting(both) > 0) {
                    second = other;
                    return true;
                }
            }
            return false;
        }

        private int lessonBits(int lesson) {
            int places = 0;
            for (int p = 0; p < house.posts; p++) {
                if (house.craftOf[p] == lesson % CRAFTS) {
                    places |= placeBit(lesson / CRAFTS, p);
                }
            }
            return places;
        }

        /** The most parts of n DAYS, the chain of FILLINGS in bestChain; -1: none. */
        int mostParts(int n) {
            int able = ableBits();
            for (int k = 0; k < n && k < MOST_AHEAD; k++) {
                findFit(k, able);
            }
            for (int k = n - 1; k >= 0; k--) {
                for (int i = 0; i < nodes; i++) {
                    hope[k * NODES + i] = k == n - 1 ? 0 : hopeBehind(i, k + 1);
                }
            }
            mostFound = -1;
            seekChain(0, n, 0);
            return mostFound;
        }

        /** Which FILLINGS are GOOD so many DAYS behind TODAY, by the DAYS that went by. */
        private void findFit(int k, int able) {
            int day = now.today + k;
            int barred = ~able;
            int met = 0;
            for (int a = 0; a < house.people; a++) {
                for (int p = 0; p < house.posts; p++) {
                    barred |= watch.whyNot(a, p, day) != 0 ? placeBit(a, p) : 0;
                }
                for (int b = a + 1; b < house.people; b++) {
                    met |= watch.mayMeet(a, b, day) ? 0 : pairBit(a, b);
                }
            }
            fit[k].clear();
            for (int i = 0; i < nodes; i++) {
                if ((at[i] & barred) == 0 && (near[i] & met) == 0) {
                    fit[k].add(i);
                }
            }
        }

        /** What DAYS from k on could bring at most behind a FILLING; -1: it can't go on. */
        private int hopeBehind(int node, int k) {
            int most = -1;
            for (int j = 0; j < nodes; j++) {
                int rest = hope[k * NODES + j];
                if (rest >= 0 && fit[k].has(j) && next[node].has(j)) {
                    most = Math.max(most, rest + partsBehind(node, j));
                }
            }
            return most;
        }

        private void seekChain(int k, int n, int sum) {
            for (int i = 0; i < nodes && k < MOST_AHEAD; i++) {
                int rest = hope[k * NODES + i];
                if (rest < 0 || !fit[k].has(i) || !followsChain(k, i)) {
                    continue;
                }
                int parts = sum + partsBehind(k == 0 ? NONE : chain[k - 1], i);
                if (parts + rest <= mostFound) {
                    continue;
                }
                chain[k] = i;
                if (k == n - 1) {
                    mostFound = parts;
                    System.arraycopy(chain, 0, bestChain, 0, n);
                } else {
                    seekChain(k + 1, n, parts);
                }
            }
        }

        private boolean followsChain(int k, int node) {
            if (k > 0 && !next[chain[k - 1]].has(node)) {
                return false;
            }
            return k < 2 || mayFollowByTwo(chain[k - 2], node);
        }

        private boolean mayFollowByTwo(int node, int later) {
            if (law.spans[Law.BESIDE] >= 2 && (near[node] & near[later]) != 0) {
                return false;
            }
            for (int p = 0; p < house.posts && law.spans[Law.WHERE] >= 2; p++) {
                if (!law.isFree(p) && oneAt(node, p) == oneAt(later, p)) {
                    return false;
                }
            }
            return true;
        }

        /** Parts that a DAY brings behind a FILLING (NONE: behind who did the WORKS the last time). */
        private int partsBehind(int node, int later) {
            int parts = 0;
            for (int p = 0; p < house.posts; p++) {
                int last = node == NONE ? now.lastBy[p] : oneAt(node, p);
                boolean handedOn = last != NONE && last != oneAt(later, p);
                parts += handedOn ? 10 - house.lossOf[p] : 10;
            }
            return parts;
        }
    }

    /** A set of numbers 0 .. 127. */
    private static final class Marks {
        private long low;
        private long high;

        void clear() {
            low = 0;
            high = 0;
        }

        void become(Marks other) {
            low = other.low;
            high = other.high;
        }

        void add(int i) {
            if (i < 64) {
                low |= 1L << i;
            } else {
                high |= 1L << (i - 64);
            }
        }

        void remove(int i) {
            if (i < 64) {
                low &= ~(1L << i);
            } else {
                high &= ~(1L << (i - 64));
            }
        }

        boolean has(int i) {
            return i < 64 ? (low >>> i & 1) != 0 : (high >>> (i - 64) & 1) != 0;
        }

        boolean meets(Marks other) {
            return (low & other.low) != 0 || (high & other.high) != 0;
        }

        void addAll(Marks other) {
            low |= other.low;
            high |= other.high;
        }

        void keepOnly(Marks other) {
            low &= other.low;
            high &= other.high;
        }

        void dropAll(Marks other) {
            low &= ~other.low;
            high &= ~other.high;
        }

        int size() {
            return Long.bitCount(low) + Long.bitCount(high);
        }
    }
}
