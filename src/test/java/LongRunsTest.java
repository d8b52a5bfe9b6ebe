import java.util.ArrayList;
import java.util.Arrays;
import java.util.HashMap;
import java.util.List;
import java.util.Map;
import java.util.NoSuchElementException;
import java.util.Random;
import java.util.TreeSet;

/** Random runs of 512 calls, good and bad ones, up to full books, held against a plain model of the document. */
public final class LongRunsTest {
    private static final int RUNS = 250;
    private static final int CALLS = 512;
    private static final int[] ODD = {Integer.MIN_VALUE, Integer.MIN_VALUE + 1, -1000, -1, 0, 1, 2, 3, 4, 8, 9, 10, 11,
        12, 13, 19, 20, 21, 22, 50, 51, 59, 60, 61, 99, 100, 101, 999, 1000, 1 << 24, 27 << 24, 1 << 31, 121212,
        121213, 1010101, Integer.MAX_VALUE};
    private static int wrong = 0;

    private final int seed;
    private final Random random;
    private final ContentsFinder x = new ContentsFinder();
    private final Model m = new Model();
    private final boolean growing;
    private final int oddOneIn;
    // where a book that is numbered as books are has come to
    private final int[] outline = new int[4];

    private LongRunsTest(int seed) {
        this.seed = seed;
        random = new Random(1000003L * seed);
        growing = seed % 3 != 0;
        oddOneIn = seed % 2 == 0 ? 6 : 60;
    }

    public static void main(String[] args) {
        for (int seed = 1; seed <= RUNS; seed++) {
            new LongRunsTest(seed).run();
        }
        System.out.println(wrong == 0 ? "all runs agree" : wrong + " answers are not as due");
        if (wrong != 0) {
            System.exit(1);
        }
    }

    private void run() {
        for (int call = 1; call <= CALLS && wrong < 20; call++) {
            int kind = random.nextInt(20);
            if (call == 1 || random.nextInt(growing ? 400 : 60) == 0) {
                int n = odd(random.nextInt(3) == 0 ? 60 : 1 + random.nextInt(30));
                due(call, "book " + n, x.book(n) ? 1 : 0, m.book(n) ? 1 : 0);
                Arrays.fill(outline, 0);
            } else if (kind < 10) {
                mutate(call, kind);
            } else {
                ask(call, kind);
            }
        }
    }

    private void due(int call, String what, long got, long want) {
        if (got != want) {
            wrong++;
            System.out.println("run " + seed + ", call " + call + ": " + what + " answered " + got + ", due is " + want);
        }
    }

    private int odd(int v) {
        return random.nextInt(oddOneIn) == 0 ? ODD[random.nextInt(ODD.length)] : v;
    }

    private int below(int n) {
        return random.nextInt(Math.max(1, n));
    }

    private int words() {
        int four = 0;
        for (int bits = 0; bits < 32; bits += 8) {
            four |= (below(3) == 0 ? 1 + below(2) : 0) << bits;
        }
        return below(3) == 0 ? 0 : below(50) == 0 ? four * 30 : four;
    }

    /** The numbers of the next line: in every second run mostly the next ones of an outline. */
    private int numbers() {
        return seed / 2 % 2 == 0 || below(4) == 0 ? anyNumbers() : odd(nextOfOutline());
    }

    private int nextOfOutline() {
        int level = 1 + below(3);
        while (level > 1 && outline[level - 1] == 0) {
            level--;
        }
        outline[level] = Math.min(12, outline[level] + 1 + (below(6) == 0 ? below(8) : 0));
        int numbers = 0;
        for (int k = 1; k <= 3; k++) {
            outline[k] = k <= level ? outline[k] : 0;
            numbers = k <= level ? 100 * numbers + outline[k] : numbers;
        }
        return numbers;
    }

    private int anyNumbers() {
        int parts = below(5) - 1;
        int numbers = 0;
        for (int k = 0; k < parts; k++) {
            numbers = 100 * numbers + 1 + (below(4) == 0 ? below(12) : below(3));
        }
        return odd(numbers);
    }

    private void mutate(int call, int kind) {
        if (kind <= 3) {
            int ahead = m.lines.isEmpty() ? 0 : m.lines.get(m.lines.size() - 1)[0];
            int page = odd(Math.min(m.reads.length - 1, ahead + below(8) / 3));
            int[] l = {page, odd(below(10)), odd(below(10)), below(2), words(), words(), numbers()};
            if (below(4) == 0 && !m.lines.isEmpty()) {
                int[] like = m.lines.get(below(m.lines.size()));
                l[1] = like[1];
                l[4] = like[4];
                l[5] = like[5];
            }
            due(call, "line", x.line(l[0], l[1], l[2], l[3] == 1, l[4], l[5], l[6]), m.line(l));
        } else if (kind == 4) {
            int page = odd(below(m.reads.length));
            int number = odd(below(5) == 0 ? below(1000) : below(4) == 0 ? 0 : page / 8 * 3 + page);
            due(call, "read", x.read(page, number) ? 1 : 0, m.read(page, number) ? 1 : 0);
        } else if (kind == 5) {
            int[] e = {odd(1 + below(3)), odd(below(40)), words(), words()};
            if (below(2) == 0 && !m.lines.isEmpty()) {
                int[] like = m.lines.get(below(m.lines.size()));
                e[2] = like[4];
                e[3] = like[5];
                e[1] = m.reads[like[0]];
            }
            due(call, "entry", x.entry(e[0], e[1], e[2], e[3]), m.entry(e));
        } else if (kind == 6) {
            int line = odd(below(m.lines.size()));
            int size = odd(below(10));
            int numbers = numbers();
            due(call, "right", x.right(line, size, numbers) ? 1 : 0, m.right(line, size, numbers) ? 1 : 0);
        } else if (kind == 7) {
            int what = odd(below(10));
            int v = odd(below(3) == 0 ? below(51) : below(8));
            due(call, "price", x.price(what, v), m.price(what, v));
        } else if (kind == 8) {
            int level = odd(below(4));
            int v = odd(below(22));
            due(call, "want", x.want(level, v), m.want(level, v));
        } else if (below(growing ? 12 : 2) == 0) {
            due(call, "clear", x.clear(), m.clear());
        } else if (below(growing ? 4 : 1) == 0) {
            due(call, "drop", x.drop(), m.drop());
        }
    }

    private void ask(int call, int kind) {
        int line = odd(below(m.lines.size()));
        int page = odd(below(m.reads.length));
        if (kind <= 12) {
            int what = odd(below(9));
            due(call, "count " + what, x.count(what), m.count(what));
        } else if (kind <= 15) {
            int what = odd(below(8));
            due(call, "of " + line + " " + what, ofFinder(line, what), m.of(line, what));
        } else if (kind == 16) {
            int level = odd(1 + below(3));
            due(call, "counter " + line + " " + level, x.counter(line, level), m.counter(line, level));
        } else if (kind == 17) {
            int entry = odd(below(m.entries.size()));
            due(call, "partner " + entry, x.partner(entry), m.partner(entry));
        } else if (kind == 18) {
            due(call, "shift " + page, shiftOfFinder(page), m.shift(page));
        } else if (below(2) == 0) {
            due(call, "span " + page, x.span(page), m.span(page));
        } else {
            due(call, "wrong " + page, x.wrong(page), m.wrong(page));
        }
    }

    private long ofFinder(int line, int what) {
        try {
            return x.of(line, what);
        } catch (NoSuchElementException e) {
            return Model.THROWN;
        }
    }

    private long shiftOfFinder(int page) {
        try {
            return x.shift(page);
        } catch (NoSuchElementException e) {
            return Model.THROWN;
        }
    }

    /** The document in its plainest form: exact counters, everything found anew for each question. */
    private static final class Model {
        static final long THROWN = Long.MIN_VALUE;

        int[] reads = new int[1];
        final List<int[]> lines = new ArrayList<>();
        final List<int[]> entries = new ArrayList<>();
        final int[] prices = {1, 2, 5, 1, 2, 4, 3, 12, 6, 4};
        final int[] wants = {3, 18, 13, 8};

        boolean book(int n) {
            if (n < 1 || n > 60) {
                return false;
            }
            reads = new int[n];
            lines.clear();
            entries.clear();
            return true;
        }

        boolean read(int page, int number) {
            if (page < 0 || page >= reads.length || number < 0 || number > 999) {
                return false;
            }
            reads[page] = number;
            return true;
        }

        static boolean good(int words) {
            for (byte letter : java.nio.ByteBuffer.allocate(4).putInt(words).array()) {
                if (letter < 0 || letter > 26) {
                    return false;
                }
            }
            return true;
        }

        /** The parts of numbers, null if they are none. */
        static int[] parts(int numbers) {
            if (numbers < 0 || numbers > 999999) {
                return null;
            }
            List<Integer> parts = new ArrayList<>();
            for (int rest = numbers; rest > 0; rest /= 100) {
                parts.add(0, rest % 100);
                if (rest % 100 < 1 || rest % 100 > 12) {
                    return null;
                }
            }
            return parts.stream().mapToInt(Integer::intValue).toArray();
        }

        int line(int[] l) {
            boolean refused = l[0] < 0 || l[0] >= reads.length || l[1] < 0 || l[1] > 9 || l[2] < 0 || l[2] > 9
                    || !good(l[4]) || !good(l[5]) || parts(l[6]) == null || lines.size() == 20
                    || !lines.isEmpty() && l[0] < lines.get(lines.size() - 1)[0];
            if (refused) {
                return -1;
            }
            lines.add(l);
            return lines.size() - 1;
        }

        boolean right(int line, int size, int numbers) {
            if (line < 0 || line >= lines.size() || size < 0 || size > 9 || parts(numbers) == null) {
                return false;
            }
            lines.get(line)[1] = size;
            lines.get(line)[6] = numbers;
            return true;
        }

        int drop() {
            if (lines.isEmpty()) {
                return -1;
            }
            lines.remove(lines.size() - 1);
            return lines.size();
        }

        int price(int what, int v) {
            if (what < 0 || what > 9 || v < 0 || v > 50) {
                return -1;
            }
            int before = prices[what];
            prices[what] = v;
            return before;
        }

        int want(int level, int v) {
            if (level < 0 || level > 3 || v < (level == 0 ? 2 : 0) || v > (level == 0 ? 60 : 21)) {
                return -1;
            }
            int before = wants[level];
            wants[level] = v;
            return before;
        }

        int entry(int[] e) {
            boolean refused = e[0] < 1 || e[0] > 3 || e[1] < 0 || e[1] > 999 || !good(e[2]) || !good(e[3])
                    || entries.size() == 12;
            if (refused) {
                return -1;
            }
            entries.add(e);
            return entries.size() - 1;
        }

        int clear() {
            int had = entries.size();
            entries.clear();
            return had;
        }

        int count(int what) {
            switch (what) {
                case 0:
                    return reads.length;
                case 1:
                    return lines.size();
                case 2:
                    return entries.size();
                case 3:
                    return (int) tree().row.chars().filter(c -> c != '0').count();
                case 4:
                    return tree().cost;
                case 5:
                    return held().cost;
                case 6:
                    return spans().cost;
                case 7:
                    return spans().row.length();
                case 8:
                    int all = 0;
                    for (int page = 0; page < reads.length; page++) {
                        all += wrong(page);
                    }
                    return all;
                default:
                    return -1;
            }
        }

        long of(int line, int what) {
            if (line < 0 || line >= lines.size() || what < 0 || what > 7) {
                return THROWN;
            }
            switch (what) {
                case 0:
                    return lines.get(line)[0];
                case 1:
                    return look(line);
                case 2:
                    return running(line) ? 1 : 0;
                case 3:
                    return tree().row.charAt(line) - '0';
                case 4:
                    return parts(lines.get(line)[6]).length;
                case 5:
                    return lastPage(line, tree().row);
                case 6:
                    return held().row.indexOf((char) line);
                default:
                    return above(line, tree().row);
            }
        }

        int lastPage(int line, String levels) {
            char own = levels.charAt(line);
            if (own == '0') {
                return -1;
            }
            for (int k = line + 1; k < levels.length(); k++) {
                if (levels.charAt(k) != '0' && levels.charAt(k) <= own) {
                    return lines.get(k)[0];
                }
            }
            return reads.length - 1;
        }

        int above(int line, String levels) {
            int above = -1;
            for (int k = 0; k < line && levels.charAt(line) != '0'; k++) {
                above = levels.charAt(k) != '0' && levels.charAt(k) < levels.charAt(line) ? k : above;
            }
            return above;
        }

        int counter(int line, int level) {
            if (line < 0 || line >= lines.size() || level < 1 || level > 3) {
                return -1;
            }
            String levels = tree().row;
            int[] c = new int[4];
            for (int k = 0; k <= line; k++) {
                c = behind(k, levels.charAt(k) - '0', c);
            }
            return c[level];
        }

        int partner(int entry) {
            if (entry < 0 || entry >= entries.size()) {
                return -1;
            }
            char partner = held().row.charAt(entry);
            return partner == 255 ? -1 : partner;
        }

        int first(int page) {
            int first = 0;
            for (char length : spans().row.toCharArray()) {
                if (page < first + length) {
                    return first * 100 + length;
                }
                first += length;
            }
            throw new AssertionError("page in no span");
        }

        long shift(int page) {
            if (page < 0 || page >= reads.length) {
                return THROWN;
            }
            int span = first(page);
            return best(span / 100, span / 100 + span % 100);
        }

        int span(int page) {
            return page < 0 || page >= reads.length ? -1 : first(page) / 100;
        }

        int wrong(int page) {
            if (page < 0 || page >= reads.length) {
                return -1;
            }
            return reads[page] != 0 && reads[page] != page + shift(page) ? 1 : 0;
        }

        // THE TREE: of each line and exact counters ahead of it the best rest, kept by name

        int look(int line) {
            int[] l = lines.get(line);
            return l[1] + l[2] + 3 * l[3];
        }

        boolean running(int line) {
            int[] own = lines.get(line);
            TreeSet<Integer> pages = new TreeSet<>();
            for (int[] l : lines) {
                if (l[1] == own[1] && l[4] == own[4] && l[5] == own[5]) {
                    pages.add(l[0]);
                }
            }
            return (own[4] != 0 || own[5] != 0) && pages.size() >= wants[0];
        }

        int[] behind(int line, int level, int[] c) {
            if (level == 0) {
                return c;
            }
            int[] parts = parts(lines.get(line)[6]);
            int[] after = new int[4];
            System.arraycopy(c, 0, after, 0, level);
            after[level] = parts.length == 0 ? c[level] + 1 : parts[parts.length - 1];
            return after;
        }

        boolean isRight(int level, int[] parts, int[] c) {
            if (level > 1 && c[level - 1] <= 0) {
                return false;
            }
            boolean right = parts.length == 0 || parts.length == level && parts[level - 1] > c[level];
            for (int k = 1; right && parts.length > 0 && k < level; k++) {
                right = parts[k - 1] == c[k];
            }
            return right;
        }

        Way tree() {
            return rest(0, new int[4], new HashMap<>());
        }

        Way rest(int line, int[] c, Map<String, Way> known) {
            if (line == lines.size()) {
                return new Way(0, "");
            }
            String name = line + " " + c[1] + " " + c[2] + " " + c[3];
            Way best = known.get(name);
            if (best != null) {
                return best;
            }
            boolean running = running(line);
            best = rest(line + 1, c, known).with(running ? 0 : look(line) * prices[0], "0");
            int[] parts = parts(lines.get(line)[6]);
            for (int level = 1; level <= 3 && !running; level++) {
                if (isRight(level, parts, c)) {
                    int cost = prices[1] * Math.abs(look(line) - wants[level]);
                    cost += parts.length == 0 ? prices[3] : 0;
                    cost += parts.length > 0 && parts[level - 1] != c[level] + 1 ? prices[2] : 0;
                    Way way = rest(line + 1, behind(line, level, c), known).with(cost, String.valueOf(level));
                    best = way.cost < best.cost || way.cost == best.cost && way.row.compareTo(best.row) < 0 ? way : best;
                }
            }
            known.put(name, best);
            return best;
        }

        // THE LIST: a sign an entry, that of its line, or 255

        Way held() {
            String levels = tree().row;
            return heldRest(0, 0, levels, new HashMap<>());
        }

        Way heldRest(int entry, int line, String levels, Map<String, Way> known) {
            String name = entry + " " + line;
            Way best = known.get(name);
            if (best != null) {
                return best;
            }
            if (entry == entries.size()) {
                int lonely = (int) levels.substring(line).chars().filter(c -> c != '0').count();
                best = new Way(prices[7] * lonely, "");
            } else {
                best = heldRest(entry + 1, line, levels, known).with(prices[7], String.valueOf((char) 255));
                int missed = 0;
                for (int k = line; k < levels.length(); k++) {
                    int level = levels.charAt(k) - '0';
                    if (level > 0) {
                        int cost = missed + pair(entries.get(entry), lines.get(k), level);
                        Way way = heldRest(entry + 1, k + 1, levels, known).with(cost, String.valueOf((char) k));
                        best = way.cost < best.cost || way.cost == best.cost && way.row.compareTo(best.row) < 0 ? way : best;
                        missed += prices[7];
                    }
                }
            }
            known.put(name, best);
            return best;
        }

        int pair(int[] e, int[] l, int level) {
            byte[] one = java.nio.ByteBuffer.allocate(8).putInt(e[2]).putInt(e[3]).array();
            byte[] other = java.nio.ByteBuffer.allocate(8).putInt(l[4]).putInt(l[5]).array();
            int cost = prices[5] * Math.abs(e[0] - level) + (reads[l[0]] == e[1] ? 0 : prices[6]);
            for (int k = 0; k < 8; k++) {
                cost += one[k] == other[k] ? 0 : prices[4];
            }
            return cost;
        }

        // SHIFTS: a sign a span, its length

        int wrongs(int first, int end, int shift) {
            int wrongs = 0;
            for (int page = first; page < end; page++) {
                wrongs += reads[page] != 0 && reads[page] != page + shift ? 1 : 0;
            }
            return wrongs;
        }

        int best(int first, int end) {
            TreeSet<Integer> shifts = new TreeSet<>();
            for (int page = first; page < end; page++) {
                if (reads[page] != 0) {
                    shifts.add(reads[page] - page);
                }
            }
            int best = shifts.isEmpty() ? 0 : shifts.first();
            for (int shift : shifts) {
                best = wrongs(first, end, shift) < wrongs(first, end, best) ? shift : best;
            }
            return best;
        }

        Way spans() {
            Way[] from = new Way[reads.length + 1];
            from[reads.length] = new Way(0, "");
            for (int first = reads.length - 1; first >= 0; first--) {
                for (int end = first + 1; end <= reads.length; end++) {
                    int cost = prices[8] + prices[9] * wrongs(first, end, best(first, end));
                    Way way = from[end].with(cost, String.valueOf((char) (end - first)));
                    from[first] = from[first] == null || way.isBetterSpans(from[first]) ? way : from[first];
                }
            }
            return from[0];
        }
    }

    private static final class Way {
        final int cost;
        final String row;

        Way(int cost, String row) {
            this.cost = cost;
            this.row = row;
        }

        Way with(int more, String ahead) {
            return new Way(cost + more, ahead + row);
        }

        boolean isBetterSpans(Way other) {
            if (cost != other.cost) {
                return cost < other.cost;
            }
            if (row.length() != other.row.length()) {
                return row.length() < other.row.length();
            }
            return row.compareTo(other.row) > 0;
        }
    }
}
