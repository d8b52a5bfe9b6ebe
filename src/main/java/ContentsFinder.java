import java.util.Arrays;
import java.util.NoSuchElementException;

/** Finds heads, parts, a printed list's partners and page-number shifts in the lines of scanned pages. */
public final class ContentsFinder {
    public static final int NONE = -1;

    private static final int MOST_PAGES = 60;
    private static final int MOST_LINES = 20;
    private static final int MOST_ENTRIES = 12;
    private static final int MOST_NUMBER = 999;
    private static final int MOST_PART = 12;
    private static final int MOST_SIZE = 9;
    private static final int LAST_LETTER = 26;
    private static final int LEVELS = 3;

    private final Settings settings;
    private final Pages pages;
    private final Lines lines;
    private final Tree tree;
    private final Listing listing;
    private final Shifts shifts;
    private boolean treeIsOld;
    private boolean listingIsOld;
    private boolean shiftsAreOld;

    public ContentsFinder() {
        Settings newSettings = new Settings();
        Pages newPages = new Pages();
        Lines newLines = new Lines();
        Tree newTree = new Tree(newLines, newSettings);
        settings = newSettings;
        pages = newPages;
        lines = newLines;
        tree = newTree;
        listing = new Listing(newLines, newPages, newTree, newSettings);
        shifts = new Shifts(newPages, newSettings);
        treeIsOld = true;
        listingIsOld = true;
        shiftsAreOld = true;
    }

    public boolean book(int n) {
        if (!isWithin(n, 1, MOST_PAGES)) {
            return false;
        }
        pages.begin(n);
        lines.count = 0;
        listing.count = 0;
        allIsOld();
        return true;
    }

    public boolean read(int page, int number) {
        if (!pages.has(page) || !isWithin(number, 0, MOST_NUMBER)) {
            return false;
        }
        pages.readNumber[page] = number;
        listingIsOld = true;
        shiftsAreOld = true;
        return true;
    }

    public int line(int page, int size, int blank, boolean centred, int a, int b, int numbers) {
        if (!pages.has(page) || !lines.canFollow(page)) {
            return NONE;
        }
        if (!isWithin(size, 0, MOST_SIZE) || !isWithin(blank, 0, MOST_SIZE)) {
            return NONE;
        }
        if (!areWords(a) || !areWords(b) || !areNumbers(numbers)) {
            return NONE;
        }
        int added = lines.count;
        lines.page[added] = page;
        lines.blank[added] = blank;
        lines.centred[added] = centred;
        lines.firstWords[added] = a;
        lines.lastWords[added] = b;
        lines.putSizeAndNumbers(added, size, numbers);
        lines.count = added + 1;
        treeIsOld = true;
        return added;
    }

    public boolean right(int line, int size, int numbers) {
        if (!lines.has(line) || !isWithin(size, 0, MOST_SIZE) || !areNumbers(numbers)) {
            return false;
        }
        lines.putSizeAndNumbers(line, size, numbers);
        treeIsOld = true;
        return true;
    }

    public int drop() {
        if (lines.count == 0) {
            return NONE;
        }
        lines.count--;
        treeIsOld = true;
        return lines.count;
    }

    public int price(int what, int v) {
        if (!isWithin(what, 0, Settings.PRICES - 1) || !isWithin(v, 0, Settings.MOST_PRICE)) {
            return NONE;
        }
        int before = settings.prices[what];
        settings.prices[what] = v;
        allIsOld();
        return before;
    }

    public int want(int level, int v) {
        if (level == 0) {
            return putMany(v);
        }
        if (!isWithin(level, 1, LEVELS) || !isWithin(v, 0, Settings.MOST_WANT)) {
            return NONE;
        }
        int before = settings.wants[level];
        settings.wants[level] = v;
        treeIsOld = true;
        return before;
    }

    private int putMany(int v) {
        if (!isWithin(v, Settings.LEAST_MANY, Settings.MOST_MANY)) {
            return NONE;
        }
        int before = settings.many;
        settings.many = v;
        treeIsOld = true;
        return before;
    }

    public int count(int what) {
        switch (what) {
            case 0:
                return pages.count;
            case 1:
                return lines.count;
            case 2:
                return listing.count;
            case 3:
                return freshTree().heads;
            case 4:
                return freshTree().cost;
            case 5:
                return freshListing().cost;
            case 6:
                return freshShifts().cost;
            case 7:
                return freshShifts().spans;
            case 8:
                return freshShifts().wrongs;
            default:
                return NONE;
        }
    }

    public int of(int line, int what) throws NoSuchElementException {
        if (!lines.has(line)) {
            throw new NoSuchElementException("no such line");
        }
        switch (what) {
            case 0:
                return lines.page[line];
            case 1:
                return lines.look(line);
            case 2:
                return freshTree().running[line] ? 1 : 0;
            case 3:
                return freshTree().levels[line];
            case 4:
                return lines.parts[line];
            case 5:
                return freshTree().lastPage(line, pages.count - 1);
            case 6:
                return freshListing().partnerOfLine[line];
            case 7:
                return freshTree().headAbove(line);
            default:
                throw new NoSuchElementException("no such question");
        }
    }

    public int counter(int line, int level) {
        if (!lines.has(line) || !isWithin(level, 1, LEVELS)) {
            return NONE;
        }
        return freshTree().countersBehind[line * LEVELS + level - 1];
    }

    public int entry(int level, int number, int a, int b) {
        if (listing.count >= MOST_ENTRIES || !isWithin(level, 1, LEVELS)) {
            return NONE;
        }
        if (!isWithin(number, 0, MOST_NUMBER) || !areWords(a) || !areWords(b)) {
            return NONE;
        }
        int added = listing.count;
        listing.level[added] = level;
        listing.number[added] = number;
        listing.firstWords[added] = a;
        listing.lastWords[added] = b;
        listing.count = added + 1;
        listingIsOld = true;
        return added;
    }

    public int clear() {
        int had = listing.count;
        listing.count = 0;
        listingIsOld = true;
        return had;
    }

    public int partner(int entry) {
        if (!isWithin(entry, 0, listing.count - 1)) {
            return NONE;
        }
        return freshListing().partnerOfEntry[entry];
    }

    public int shift(int page) throws NoSuchElementException {
        if (!pages.has(page)) {
            throw new NoSuchElementException("no such page");
        }
        return freshShifts().shiftOfPage[page];
    }

    public int span(int page) {
        if (!pages.has(page)) {
            return NONE;
        }
        return freshShifts().firstOfPage[page];
    }

    public int wrong(int page) {
        if (!pages.has(page)) {
            return NONE;
        }
        return freshShifts().isWrong(page) ? 1 : 0;
    }

    private void allIsOld() {
        treeIsOld = true;
        listingIsOld = true;
        shiftsAreOld = true;
    }

    private Tree freshTree() {
        if (treeIsOld) {
            tree.search();
            treeIsOld = false;
            // the list is held against the tree, so a new tree makes it old
            listingIsOld = true;
        }
        return tree;
    }

    private Listing freshListing() {
        freshTree();
        if (listingIsOld) {
            listing.hold();
            listingIsOld = false;
        }
        return listing;
    }

    private Shifts freshShifts() {
        if (shiftsAreOld) {
            shifts.explain();
            shiftsAreOld = false;
        }
        return shifts;
    }

    private static boolean isWithin(int v, int least, int most) {
        return v >= least && v <= most;
    }

    private static boolean areWords(int four) {
        for (int bits = 0; bits < 32; bits += 8) {
            if ((four >>> bits & 255) > LAST_LETTER) {
                return false;
            }
        }
        return true;
    }

    private static boolean areNumbers(int numbers) {
        if (!isWithin(numbers, 0, 121212)) {
            return false;
        }
        int rest = numbers;
        for (int k = countParts(numbers); k > 0; k--) {
            if (!isWithin(rest % 100, 1, MOST_PART)) {
                return false;
            }
            rest /= 100;
        }
        return true;
    }

    private static int countParts(int numbers) {
        if (numbers == 0) {
            return 0;
        }
        if (numbers < 100) {
            return 1;
        }
        return numbers < 10000 ? 2 : 3;
    }

    /** Prices, wants of the levels and how many pages make a line a running one. */
    private static final class Settings {
        static final int PRICES = 10;
        static final int MOST_PRICE = 50;
        static final int MOST_WANT = 21;
        static final int LEAST_MANY = 2;
        static final int MOST_MANY = 60;

        static final int TEXT = 0;
        static final int HEAD = 1;
        static final int GAP = 2;
        static final int PLAIN = 3;
        static final int SLIP = 4;
        static final int LEVEL = 5;
        static final int PAGE = 6;
        static final int MISS = 7;
        static final int SPAN = 8;
        static final int WRONG = 9;

        final int[] prices = {1, 2, 5, 1, 2, 4, 3, 12, 6, 4};
        // place 0 is not used: running text has no want
        final int[] wants = {0, 18, 13, 8};
        int many = 3;
    }

    /** The pages and their read numbers, 0 standing for none. */
    private static final class Pages {
        final int[] readNumber = new int[MOST_PAGES];
        int count = 1;

        void begin(int n) {
            count = n;
            Arrays.fill(readNumber, 0);
        }

        boolean has(int page) {
            return isWithin(page, 0, count - 1);
        }
    }

    /** The lines in their order, as they were read. */
    private static final class Lines {
        final int[] page = new int[MOST_LINES];
        final int[] size = new int[MOST_LINES];
        final int[] blank = new int[MOST_LINES];
        final boolean[] centred = new boolean[MOST_LINES];
        final int[] firstWords = new int[MOST_LINES];
        final int[] lastWords = new int[MOST_LINES];
        final int[] parts = new int[MOST_LINES];
        // LEVELS places a line, the first part first, 0 behind the last one
        final int[] part = new int[MOST_LINES * LEVELS];
        int count = 0;

        boolean has(int line) {
            return isWithin(line, 0, count - 1);
        }

        boolean canFollow(int newPage) {
            if (count >= MOST_LINES) {
                return false;
            }
            return count == 0 || newPage >= page[count - 1];
        }

        void putSizeAndNumbers(int line, int newSize, int numbers) {
            size[line] = newSize;
            parts[line] = countParts(numbers);
            int rest = numbers;
            for (int place = LEVELS; place >= 1; place--) {
                boolean isUsed = place <= parts[line];
                part[line * LEVELS + place - 1] = isUsed ? rest % 100 : 0;
                rest = isUsed ? rest / 100 : rest;
            }
        }

        int partAt(int line, int place) {
            return part[line * LEVELS + place - 1];
        }

        int look(int line) {
            return size[line] + blank[line] + (centred[line] ? 3 : 0);
        }

        boolean isRunning(int line, int many) {
            if (firstWords[line] == 0 && lastWords[line] == 0) {
                return false;
            }
            int pagesSeen = 0;
            int latest = NONE;
            // pages never go back, so a page is new if it is not the latest one
            for (int other = 0; other < count; other++) {
                if (areAlike(line, other) && page[other] != latest) {
                    latest = page[other];
                    pagesSeen++;
                }
            }
            return pagesSeen >= many;
        }

        private boolean areAlike(int one, int other) {
            return size[one] == size[other] && firstWords[one] == firstWords[other]
                    && lastWords[one] == lastWords[other];
        }
    }

    /** The three counters at one place of the tree. */
    private static final class Counters {
        // one more than the greatest part: all that a counter beyond the parts needs to tell
        static final int BASE = MOST_PART + 2;
        static final int STATES = BASE * BASE * BASE;

        // place 0 is always 1, as level 1 needs no head above it
        final int[] at = {1, 0, 0, 0};
        private final Lines lines;

        Counters(Lines lines) {
            this.lines = lines;
        }

        void unpack(int state) {
            at[1] = state / (BASE * BASE);
            at[2] = state / BASE % BASE;
            at[3] = state % BASE;
        }

        int pack(int[] caps) {
            int state = 0;
            for (int level = 1; level <= LEVELS; level++) {
                state = state * BASE + (at[level] < caps[level] ? at[level] : caps[level]);
            }
            return state;
        }

        boolean allowHead(int line, int level) {
            if (at[level - 1] == 0) {
                return false;
            }
            int parts = lines.parts[line];
            if (parts == 0) {
                return true;
            }
            if (parts != level) {
                return false;
            }
            for (int above = 1; above < level; above++) {
                if (lines.partAt(line, above) != at[above]) {
                    return false;
                }
            }
            return lines.partAt(line, level) > at[level];
        }

        void passHead(int line, int level) {
            at[level] = lines.parts[line] == 0 ? at[level] + 1 : lines.partAt(line, level);
            for (int deeper = level + 1; deeper <= LEVELS; deeper++) {
                at[deeper] = 0;
            }
        }
    }

    /**
     * The levels of the least cost, found line by line over the states that the counters can be in.
     * A way's key is its cost and, below it, two bits a line for the levels, the first line highest:
     * so the least key is the least cost, and of equal ones the less level at the first unlike line.
     */
    private static final class Tree {
        // above every key: the cost of twenty lines stays below fifteen bits
        private static final long FAR = 1L << 60;
        private static final int COST_BITS = 2 * MOST_LINES;

        final boolean[] running = new boolean[MOST_LINES];
        final int[] levels = new int[MOST_LINES];
        final int[] countersBehind = new int[MOST_LINES * LEVELS];
        int heads = 0;
        int cost = 0;

        private final Lines lines;
        private final Settings settings;
        private final Counters counters;
        private final int[] caps = new int[LEVELS + 1];
        private long[] keys = new long[Counters.STATES];
        private long[] nextKeys = new long[Counters.STATES];
        private int[] states = new int[Counters.STATES];
        private int[] nextStates = new int[Counters.STATES];
        private int reached = 0;
        private int nextReached = 0;

        Tree(Lines lines, Settings settings) {
            this.lines = lines;
            this.settings = settings;
            counters = new Counters(lines);
            Arrays.fill(keys, FAR);
            Arrays.fill(nextKeys, FAR);
        }

        void search() {
            for (int line = 0; line < lines.count; line++) {
                running[line] = lines.isRunning(line, settings.many);
            }
            reached = 1;
            states[0] = 0;
            keys[0] = 0;
            for (int line = 0; line < lines.count; line++) {
                findCapsBehind(line);
                passLine(line);
            }
            tellLevels(takeLeastKey());
            tellCounters();
        }

        // Counters above every part that is still to come all act alike: keeping them as one
        // holds the states few.
        private void findCapsBehind(int line) {
            for (int level = 1; level <= LEVELS; level++) {
                int greatest = 0;
                for (int later = line + 1; later < lines.count; later++) {
                    greatest = Math.max(greatest, lines.partAt(later, level));
                }
                caps[level] = greatest + 1;
            }
        }

        private void passLine(int line) {
            int deepest = running[line] ? 0 : LEVELS;
            nextReached = 0;
            for (int k = 0; k < reached; k++) {
                int state = states[k];
                long key = keys[state];
                keys[state] = FAR;
                for (int level = 0; level <= deepest; level++) {
                    counters.unpack(state);
                    if (level == 0 || counters.allowHead(line, level)) {
                        offer(line, level, key);
                    }
                }
            }
            swapRows();
        }

        private void offer(int line, int level, long key) {
            long lineCost = level == 0 ? textCost(line) : headCost(line, level);
            long levelBits = (long) level << 2 * (MOST_LINES - 1 - line);
            if (level > 0) {
                counters.passHead(line, level);
            }
            int state = counters.pack(caps);
            if (nextKeys[state] == FAR) {
                nextStates[nextReached] = state;
                nextReached++;
            }
            nextKeys[state] = Math.min(nextKeys[state], key + (lineCost << COST_BITS) + levelBits);
        }

        private int textCost(int line) {
            return running[line] ? 0 : lines.look(line) * settings.prices[Settings.TEXT];
        }

        private int headCost(int line, int level) {
            int off = Math.abs(lines.look(line) - settings.wants[level]);
            int lookCost = settings.prices[Settings.HEAD] * off;
            if (lines.parts[line] == 0) {
                return lookCost + settings.prices[Settings.PLAIN];
            }
            boolean isNext = lines.partAt(line, level) == counters.at[level] + 1;
            return isNext ? lookCost : lookCost + settings.prices[Settings.GAP];
        }

        private void swapRows() {
            long[] oldKeys = keys;
            keys = nextKeys;
            nextKeys = oldKeys;
            int[] oldStates = states;
            states = nextStates;
            nextStates = oldStates;
            reached = nextReached;
        }

        private long takeLeastKey() {
            long least = FAR;
            for (int k = 0; k < reached; k++) {
                least = Math.min(least, keys[states[k]]);
                keys[states[k]] = FAR;
            }
            return least;
        }

        private void tellLevels(long key) {
            cost = (int) (key >> COST_BITS);
            heads = 0;
            for (int line = 0; line < lines.count; line++) {
                levels[line] = (int) (key >> 2 * (MOST_LINES - 1 - line) & 3);
                heads += levels[line] > 0 ? 1 : 0;
            }
        }

        private void tellCounters() {
            counters.unpack(0);
            for (int line = 0; line < lines.count; line++) {
                if (levels[line] > 0) {
                    counters.passHead(line, levels[line]);
                }
                for (int level = 1; level <= LEVELS; level++) {
                    countersBehind[line * LEVELS + level - 1] = counters.at[level];
                }
            }
        }

        int lastPage(int line, int lastOfBook) {
            if (levels[line] == 0) {
                return NONE;
            }
            for (int later = line + 1; later < lines.count; later++) {
                if (levels[later] > 0 && levels[later] <= levels[line]) {
                    return lines.page[later];
                }
            }
            return lastOfBook;
        }

        int headAbove(int line) {
            for (int ahead = line - 1; ahead >= 0; ahead--) {
                if (levels[ahead] > 0 && levels[ahead] < levels[line]) {
                    return ahead;
                }
            }
            return NONE;
        }
    }

    /** The printed list, held against the tree's heads. */
    private static final class Listing {
        private static final int WIDTH = MOST_LINES + 1;

        final int[] level = new int[MOST_ENTRIES];
        final int[] number = new int[MOST_ENTRIES];
        final int[] firstWords = new int[MOST_ENTRIES];
        final int[] lastWords = new int[MOST_ENTRIES];
        int count = 0;

        final int[] partnerOfEntry = new int[MOST_ENTRIES];
        final int[] partnerOfLine = new int[MOST_LINES];
        int cost = 0;

        private final Lines lines;
        private final Pages pages;
        private final Tree tree;
        private final Settings settings;
        private final int[] heads = new int[MOST_LINES];
        private int headCount = 0;
        // the least cost of the entries and heads from a place on: WIDTH places an entry
        private final int[] least = new int[(MOST_ENTRIES + 1) * WIDTH];

        Listing(Lines lines, Pages pages, Tree tree, Settings settings) {
            this.lines = lines;
            this.pages = pages;
            this.tree = tree;
            this.settings = settings;
        }

        void hold() {
            gatherHeads();
            for (int entry = count; entry >= 0; entry--) {
                for (int head = headCount; head >= 0; head--) {
                    least[entry * WIDTH + head] = leastFrom(entry, head);
                }
            }
            cost = least[0];
            tellPartners();
        }

        private void gatherHeads() {
            headCount = 0;
            for (int line = 0; line < lines.count; line++) {
                if (tree.levels[line] > 0) {
                    heads[headCount] = line;
                    headCount++;
                }
            }
        }

        private int leastFrom(int entry, int head) {
            int miss = settings.prices[Settings.MISS];
            if (entry == count) {
                return miss * (headCount - head);
            }
            if (head == headCount) {
                return miss * (count - entry);
            }
            int place = entry * WIDTH + head;
            int withMiss = miss + Math.min(least[place + WIDTH], least[place + 1]);
            return Math.min(withMiss, pairCost(entry, head) + least[place + WIDTH + 1]);
        }

        private int pairCost(int entry, int head) {
            int line = heads[head];
            int slips = unlikePlaces(firstWords[entry], lines.firstWords[line])
                    + unlikePlaces(lastWords[entry], lines.lastWords[line]);
            int steps = Math.abs(level[entry] - tree.levels[line]);
            boolean isOnPage = pages.readNumber[lines.page[line]] == number[entry];
            return settings.prices[Settings.SLIP] * slips + settings.prices[Settings.LEVEL] * steps
                    + (isOnPage ? 0 : settings.prices[Settings.PAGE]);
        }

        private static int unlikePlaces(int four, int otherFour) {
            int unlike = 0;
            for (int bits = 0; bits < 32; bits += 8) {
                if (((four ^ otherFour) >>> bits & 255) != 0) {
                    unlike++;
                }
            }
            return unlike;
        }

        private void tellPartners() {
            Arrays.fill(partnerOfEntry, NONE);
            Arrays.fill(partnerOfLine, NONE);
            int nextHead = 0;
            for (int entry = 0; entry < count; entry++) {
                int head = firstCheapHead(entry, nextHead);
                if (head != NONE) {
                    partnerOfEntry[entry] = heads[head];
                    partnerOfLine[heads[head]] = entry;
                    nextHead = head + 1;
                }
            }
        }

        private int firstCheapHead(int entry, int from) {
            int due = least[entry * WIDTH + from];
            int missed = 0;
            for (int head = from; head < headCount; head++) {
                int behind = least[(entry + 1) * WIDTH + head + 1];
                if (missed + pairCost(entry, head) + behind == due) {
                    return head;
                }
                missed += settings.prices[Settings.MISS];
            }
            return NONE;
        }
    }

    /** The spans of pages, each with the shift that explains most of its read numbers. */
    private static final class Shifts {
        // the least shift is that of number 1 on the last page
        private static final int SHIFT_BASE = MOST_PAGES - 1;
        private static final int SHIFT_PLACES = SHIFT_BASE + MOST_NUMBER + 1;
        // a span more costs less than one of cost, so it tells only between equal costs
        private static final int COST_UNIT = MOST_PAGES + 4;
        private static final int FAR = 1 << 30;

        final int[] shiftOfPage = new int[MOST_PAGES];
        final int[] firstOfPage = new int[MOST_PAGES];
        int cost = 0;
        int spans = 0;
        int wrongs = 0;

        private final Pages pages;
        private final Settings settings;
        // of the pages from one on: the least cost with its spans, and the first page behind the first span
        private final int[] least = new int[MOST_PAGES + 1];
        private final int[] behind = new int[MOST_PAGES];
        private final int[] timesOfShift = new int[SHIFT_PLACES];

        Shifts(Pages pages, Settings settings) {
            this.pages = pages;
            this.settings = settings;
        }

        void explain() {
            least[pages.count] = 0;
            for (int first = pages.count - 1; first >= 0; first--) {
                findFirstSpan(first);
                forgetTimes(first, pages.count);
            }
            cost = least[0] / COST_UNIT;
            spans = least[0] % COST_UNIT;
            tellSpans();
        }

        private void findFirstSpan(int first) {
            int spanCost = settings.prices[Settings.SPAN] * COST_UNIT + 1;
            int wrongCost = settings.prices[Settings.WRONG] * COST_UNIT;
            int numbers = 0;
            int mostAlike = 0;
            least[first] = FAR;
            for (int last = first; last < pages.count; last++) {
                if (pages.readNumber[last] > 0) {
                    numbers++;
                    mostAlike = Math.max(mostAlike, addTime(last));
                }
                int whole = spanCost + wrongCost * (numbers - mostAlike) + least[last + 1];
                // equal ones too: the later one makes the first span longer
                if (whole <= least[first]) {
                    least[first] = whole;
                    behind[first] = last + 1;
                }
            }
        }

        private int shiftPlace(int page) {
            return pages.readNumber[page] - page + SHIFT_BASE;
        }

        private int addTime(int page) {
            int place = shiftPlace(page);
            timesOfShift[place]++;
            return timesOfShift[place];
        }

        private void forgetTimes(int first, int end) {
            for (int page = first; page < end; page++) {
                timesOfShift[shiftPlace(page)] = 0;
            }
        }

        private void tellSpans() {
            wrongs = 0;
            int first = 0;
            int end = 0;
            int spanShift = 0;
            for (int page = 0; page < pages.count; page++) {
                if (page == end) {
                    first = page;
                    end = behind[page];
                    spanShift = bestShift(first, end);
                }
                firstOfPage[page] = first;
                shiftOfPage[page] = spanShift;
                wrongs += isWrong(page) ? 1 : 0;
            }
        }

        private int bestShift(int first, int end) {
            int best = 0;
            int most = 0;
            for (int page = first; page < end; page++) {
                if (pages.readNumber[page] > 0) {
                    int times = addTime(page);
                    int itsShift = pages.readNumber[page] - page;
                    if (times > most || times == most && itsShift < best) {
                        most = times;
                        best = itsShift;
                    }
                }
            }
            forgetTimes(first, end);
            return best;
        }

        boolean isWrong(int page) {
            int number = pages.readNumber[page];
            return number > 0 && number != page + shiftOfPage[page];
        }
    }
}
