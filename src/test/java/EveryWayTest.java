import java.util.Random;

/** Small random books, every answer held against a search of every way, word by word as the document has it. */
public final class EveryWayTest {
    private static final int BOOKS = 3000;
    private static int wrong = 0;

    private final Random random;
    private final int seed;
    private final ContentsFinder finder = new ContentsFinder();
    private final int[] prices = {1, 2, 5, 1, 2, 4, 3, 12, 6, 4};
    private final int[] wants = {3, 18, 13, 8};
    private int[] readNumbers;
    private int[][] lines = new int[0][];
    private int[][] entries = new int[0][];

    private EveryWayTest(int seed) {
        this.seed = seed;
        random = new Random(seed);
    }

    public static void main(String[] args) {
        for (int seed = 1; seed <= BOOKS; seed++) {
            new EveryWayTest(seed).run();
        }
        System.out.println(wrong == 0 ? "every way agrees" : wrong + " answers are not as due");
        if (wrong != 0) {
            System.exit(1);
        }
    }

    private void due(String call, long got, long want) {
        if (got != want) {
            wrong++;
            System.out.println("book " + seed + ": " + call + " answered " + got + ", due is " + want);
        }
    }

    private int upTo(int most) {
        return random.nextInt(most + 1);
    }

    private void run() {
        makeBook();
        for (int round = 0; round < 3; round++) {
            int[] levels = checkTree();
            checkList(levels);
            checkShifts();
            change();
        }
    }

    private void makeBook() {
        readNumbers = new int[1 + upTo(8)];
        finder.book(readNumbers.length);
        int shift = upTo(5);
        for (int page = 0; page < readNumbers.length; page++) {
            shift = upTo(4) == 0 ? upTo(8) - 4 : shift;
            readNumbers[page] = upTo(4) == 0 ? 0 : Math.max(0, page + shift);
            finder.read(page, readNumbers[page]);
        }
        if (upTo(1) == 0) {
            changePrices();
        }
        lines = new int[upTo(6)][];
        int page = 0;
        for (int k = 0; k < lines.length; k++) {
            page = Math.min(readNumbers.length - 1, page + upTo(2));
            lines[k] = new int[] {page, upTo(9), upTo(9), upTo(1), words(), words(), numbers()};
            int[] l = lines[k];
            due("line", finder.line(l[0], l[1], l[2], l[3] == 1, l[4], l[5], l[6]), k);
        }
        entries = new int[upTo(4)][];
        for (int k = 0; k < entries.length; k++) {
            entries[k] = new int[] {1 + upTo(2), upTo(12), words(), words()};
            due("entry", finder.entry(entries[k][0], entries[k][1], entries[k][2], entries[k][3]), k);
        }
    }

    private int words() {
        return upTo(2) == 0 ? 0 : upTo(1) << 24 | upTo(1) << 8 | upTo(1);
    }

    private int numbers() {
        switch (upTo(4)) {
            case 0:
                return 1 + upTo(2);
            case 1:
                return 100 * (1 + upTo(1)) + 1 + upTo(2);
            case 2:
                return 10000 * (1 + upTo(1)) + 100 * (1 + upTo(1)) + 1 + upTo(2);
            default:
                return 0;
        }
    }

    private void changePrices() {
        int most = upTo(1) == 0 ? 3 : 20;
        for (int what = 0; what < prices.length; what++) {
            int v = upTo(most);
            due("price", finder.price(what, v), prices[what]);
            prices[what] = v;
        }
    }

    private void change() {
        int what = upTo(prices.length - 1);
        int v = upTo(12);
        due("price", finder.price(what, v), prices[what]);
        prices[what] = v;
        int level = upTo(3);
        int want = level == 0 ? 2 + upTo(1) : upTo(21);
        due("want", finder.want(level, want), wants[level]);
        wants[level] = want;
        if (lines.length > 0) {
            int k = upTo(lines.length - 1);
            lines[k][1] = upTo(9);
            lines[k][6] = numbers();
            due("right", finder.right(k, lines[k][1], lines[k][6]) ? 1 : 0, 1);
        }
        int page = upTo(readNumbers.length - 1);
        readNumbers[page] = upTo(12);
        finder.read(page, readNumbers[page]);
    }

    // THE TREE

    private int look(int k) {
        return lines[k][1] + lines[k][2] + (lines[k][3] == 1 ? 3 : 0);
    }

    private boolean isRunning(int k) {
        if (lines[k][4] == 0 && lines[k][5] == 0) {
            return false;
        }
        boolean[] on = new boolean[readNumbers.length];
        int pages = 0;
        for (int[] l : lines) {
            if (l[4] == lines[k][4] && l[5] == lines[k][5] && l[1] == lines[k][1] && !on[l[0]]) {
                on[l[0]] = true;
                pages++;
            }
        }
        return pages >= wants[0];
    }

    private int[] parts(int k) {
        String digits = String.valueOf(lines[k][6]);
        if (lines[k][6] == 0) {
            return new int[0];
        }
        digits = digits.length() % 2 == 1 ? "0" + digits : digits;
        int[] parts = new int[digits.length() / 2];
        for (int p = 0; p < parts.length; p++) {
            parts[p] = Integer.parseInt(digits.substring(2 * p, 2 * p + 2));
        }
        return parts;
    }

    /** The cost of a row of levels, -1 if a head of it is not right; counters behind each line in the table. */
    private int costOf(int[] levels, int[][] behind) {
        int[] counters = new int[4];
        int cost = 0;
        for (int k = 0; k < levels.length; k++) {
            int level = levels[k];
            if (level == 0) {
                cost += isRunning(k) ? 0 : look(k) * prices[0];
            } else {
                int[] parts = parts(k);
                if (isRunning(k) || !isRight(level, counters, parts)) {
                    return -1;
                }
                cost += prices[1] * Math.abs(look(k) - wants[level]);
                cost += parts.length == 0 ? prices[3] : parts[level - 1] != counters[level] + 1 ? prices[2] : 0;
                counters[level] = parts.length == 0 ? counters[level] + 1 : parts[level - 1];
                for (int deeper = level + 1; deeper <= 3; deeper++) {
                    counters[deeper] = 0;
                }
            }
            behind[k] = counters.clone();
        }
        return cost;
    }

    private static boolean isRight(int level, int[] counters, int[] parts) {
        if (level > 1 && counters[level - 1] == 0) {
            return false;
        }
        if (parts.length == 0) {
            return true;
        }
        if (parts.length != level) {
            return false;
        }
        for (int p = 0; p < level - 1; p++) {
            if (parts[p] != counters[p + 1]) {
                return false;
            }
        }
        return parts[level - 1] > counters[level];
    }

    private int[] checkTree() {
        int n = lines.length;
        int least = -1;
        int[] best = new int[n];
        int[][] bestBehind = new int[n][];
        // counted up, rows come in the order of the tie: the first of equal ones stays
        for (int way = 0; way < 1 << 2 * n; way++) {
            int[] levels = new int[n];
            for (int k = 0; k < n; k++) {
                levels[k] = way >> 2 * (n - 1 - k) & 3;
            }
            int[][] behind = new int[n][];
            int cost = costOf(levels, behind);
            if (cost >= 0 && (least < 0 || cost < least)) {
                least = cost;
                best = levels;
                bestBehind = behind;
            }
        }
        due("count(4)", finder.count(4), least);
        int heads = 0;
        for (int k = 0; k < n; k++) {
            heads += best[k] > 0 ? 1 : 0;
            due("of(" + k + ", 1)", finder.of(k, 1), look(k));
            due("of(" + k + ", 2)", finder.of(k, 2), isRunning(k) ? 1 : 0);
            due("of(" + k + ", 3)", finder.of(k, 3), best[k]);
            due("of(" + k + ", 4)", finder.of(k, 4), parts(k).length);
            for (int level = 1; level <= 3; level++) {
                due("counter(" + k + ", " + level + ")", finder.counter(k, level), bestBehind[k][level]);
            }
            checkPart(k, best);
        }
        due("count(3)", finder.count(3), heads);
        return best;
    }

    private void checkPart(int k, int[] levels) {
        int last = levels[k] == 0 ? -1 : readNumbers.length - 1;
        for (int later = levels.length - 1; levels[k] > 0 && later > k; later--) {
            last = levels[later] > 0 && levels[later] <= levels[k] ? lines[later][0] : last;
        }
        int above = -1;
        for (int ahead = 0; levels[k] > 0 && ahead < k; ahead++) {
            above = levels[ahead] > 0 && levels[ahead] < levels[k] ? ahead : above;
        }
        due("of(" + k + ", 5)", finder.of(k, 5), last);
        due("of(" + k + ", 7)", finder.of(k, 7), above);
    }

    // THE LIST

    private int pair(int e, int k, int level) {
        int cost = prices[5] * Math.abs(entries[e][0] - level);
        for (int bits = 0; bits < 32; bits += 8) {
            cost += (entries[e][2] >> bits & 255) != (lines[k][4] >> bits & 255) ? prices[4] : 0;
            cost += (entries[e][3] >> bits & 255) != (lines[k][5] >> bits & 255) ? prices[4] : 0;
        }
        return cost + (readNumbers[lines[k][0]] != entries[e][1] ? prices[6] : 0);
    }

    private void checkList(int[] levels) {
        int n = lines.length;
        int ways = 1;
        for (int e = 0; e < entries.length; e++) {
            ways *= n + 1;
        }
        int least = -1;
        int[] best = new int[entries.length];
        // partner n stands for none; counted up, the first of equal ones stays
        for (int way = 0; way < ways; way++) {
            int[] partners = new int[entries.length];
            int rest = way;
            for (int e = entries.length - 1; e >= 0; e--) {
                partners[e] = rest % (n + 1);
                rest /= n + 1;
            }
            int cost = costOfPartners(partners, levels);
            if (cost >= 0 && (least < 0 || cost < least)) {
                least = cost;
                best = partners;
            }
        }
        due("count(5)", finder.count(5), least);
        int[] ofLine = new int[n];
        java.util.Arrays.fill(ofLine, -1);
        for (int e = 0; e < entries.length; e++) {
            due("partner(" + e + ")", finder.partner(e), best[e] == n ? -1 : best[e]);
            if (best[e] < n) {
                ofLine[best[e]] = e;
            }
        }
        for (int k = 0; k < n; k++) {
            due("of(" + k + ", 6)", finder.of(k, 6), ofLine[k]);
        }
    }

    private int costOfPartners(int[] partners, int[] levels) {
        int latest = -1;
        int cost = 0;
        int lonely = 0;
        for (int level : levels) {
            lonely += level > 0 ? 1 : 0;
        }
        for (int e = 0; e < partners.length; e++) {
            int k = partners[e];
            if (k == levels.length) {
                lonely++;
            } else if (levels[k] == 0 || k <= latest) {
                return -1;
            } else {
                cost += pair(e, k, levels[k]);
                lonely--;
                latest = k;
            }
        }
        return cost + prices[7] * lonely;
    }

    // SHIFTS

    private int wrongOf(int first, int end, int shift) {
        int wrongOnes = 0;
        for (int page = first; page < end; page++) {
            wrongOnes += readNumbers[page] != 0 && readNumbers[page] != page + shift ? 1 : 0;
        }
        return wrongOnes;
    }

    private int shiftOf(int first, int end) {
        int best = -70;
        boolean hasNumbers = false;
        for (int page = first; page < end; page++) {
            hasNumbers |= readNumbers[page] != 0;
        }
        for (int shift = -70; shift < 1010; shift++) {
            best = wrongOf(first, end, shift) < wrongOf(first, end, best) ? shift : best;
        }
        return hasNumbers ? best : 0;
    }

    private void checkShifts() {
        int n = readNumbers.length;
        int[][] wrongs = new int[n][n + 1];
        for (int first = 0; first < n; first++) {
            for (int end = first + 1; end <= n; end++) {
                wrongs[first][end] = wrongOf(first, end, shiftOf(first, end));
            }
        }
        int least = -1;
        int bestWay = 0;
        // a bit a cut, the one behind the first page highest: of as many cuts the less way
        // has the longer first span that is not alike
        for (int way = 0; way < 1 << (n - 1); way++) {
            int cost = 0;
            int first = 0;
            for (int end = 1; end <= n; end++) {
                if (end == n || (way >> (n - 1 - end) & 1) == 1) {
                    cost += prices[8] + prices[9] * wrongs[first][end];
                    first = end;
                }
            }
            boolean isBetter = least < 0 || cost < least
                    || cost == least && Integer.bitCount(way) < Integer.bitCount(bestWay);
            if (isBetter) {
                least = cost;
                bestWay = way;
            }
        }
        due("count(6)", finder.count(6), least);
        due("count(7)", finder.count(7), Integer.bitCount(bestWay) + 1);
        checkSpans(bestWay);
    }

    private void checkSpans(int way) {
        int n = readNumbers.length;
        int all = 0;
        int first = 0;
        for (int end = 1; end <= n; end++) {
            if (end == n || (way >> (n - 1 - end) & 1) == 1) {
                int shift = shiftOf(first, end);
                for (int page = first; page < end; page++) {
                    int isWrong = wrongOf(page, page + 1, shift);
                    all += isWrong;
                    due("shift(" + page + ")", finder.shift(page), shift);
                    due("span(" + page + ")", finder.span(page), first);
                    due("wrong(" + page + ")", finder.wrong(page), isWrong);
                }
                first = end;
            }
        }
        due("count(8)", finder.count(8), all);
    }
}
