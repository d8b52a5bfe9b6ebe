import java.util.ArrayList;
import java.util.List;
import java.util.function.Supplier;
import java.util.function.ToLongFunction;

/**
 * Every kind of refused call, on an empty, a small and a full book: its answer, and that it changed nothing.
 * That is seen by a twin that did not get the call: behind it both answer everything alike.
 */
public final class RefusedCallsTest {
    private static final int MIN = Integer.MIN_VALUE;
    private static final int MAX = Integer.MAX_VALUE;
    private static final int[] BAD_NUMBERS = {MIN, -10101, -101, -1, 13, 99, 100, 113, 199, 1200, 1213, 1301, 9901,
        10000, 10001, 10100, 10113, 11301, 120012, 121200, 121213, 121312, 130101, 131212, 1000000, 1010101, 12121212,
        1212121212, MAX};
    private static final Sentences SENTENCES = new Sentences();

    private final String name;
    private final Supplier<Asked> maker;
    private final int pages;
    private final int lines;
    private final int entries;
    private List<Long> dueUnasked;
    private List<Long> dueAsked;

    private RefusedCallsTest(String name, Supplier<Asked> maker) {
        this.name = name;
        this.maker = maker;
        Asked x = maker.get();
        pages = (int) x.count(0);
        lines = (int) x.count(1);
        entries = (int) x.count(2);
    }

    public static void main(String[] args) {
        new RefusedCallsTest("a new object", Asked::new).run();
        new RefusedCallsTest("a small book", RefusedCallsTest::smallBook).run();
        new RefusedCallsTest("a full book", RefusedCallsTest::fullBook).run();
        SENTENCES.end();
    }

    private static Asked smallBook() {
        Asked x = Asked.withNumbers(7, 8, 0, 30, 31, 32, 13);
        x.want(0, 2);
        x.want(3, 7);
        x.price(6, 4);
        x.line(0, 9, 9, false, 1 << 24, 0, 1);
        x.line(1, 2, 1, true, 2 << 24, 5, 0);
        x.line(1, 8, 5, false, 3 << 24, 0, 102);
        x.line(3, 2, 3, false, 2 << 24, 5, 0);
        x.line(4, 4, 3, false, 0, 4, 10201);
        x.line(5, 9, 8, true, 0, 0, 0);
        // each entry fits its partner in all, so that whatever changes in one of them costs more
        x.entry(1, 7, 1 << 24, 0);
        x.entry(3, 31, 0, 4);
        x.entry(1, 32, 0, 0);
        return x;
    }

    private static Asked fullBook() {
        Asked x = Asked.withPages(60);
        for (int k = 0; k < 20; k++) {
            x.read(2 * k, 2 * k + 1 + k / 8);
            x.line(2 * k, k % 4 == 0 ? 9 : 8, k % 4 == 0 ? 9 : 5, false, k + 1 << 24, k, 0);
        }
        for (int k = 8; k < 20; k++) {
            x.entry(k % 4 == 0 ? 1 : 2, 2 * k + 1 + k / 8, k + 1 << 24, k);
        }
        return x;
    }

    private void run() {
        dueUnasked = everything(maker.get());
        Asked x = maker.get();
        askAll(x);
        dueAsked = everything(x);
        book();
        read();
        linePage();
        lineLook();
        lineWords();
        lineNumbers();
        right();
        full();
        empty();
        price();
        want();
        count();
        of();
        counter();
        entry();
        partner();
        pageQuestions();
    }

    /** The questions that make the finder find all it can find. */
    private static void askAll(Asked x) {
        for (int what = 3; what <= 8; what++) {
            x.count(what);
        }
    }

    /** All answers, and then those behind changes that bring to light what no answer tells by itself. */
    private List<Long> everything(Asked x) {
        List<Long> all = new ArrayList<>();
        tell(x, all);
        for (int what = 0; what < 10; what++) {
            all.add(x.price(what, 3 + what));
        }
        all.add(x.want(0, 3));
        for (int level = 1; level <= 3; level++) {
            all.add(x.want(level, 6 * level));
        }
        counts(x, all);
        // a dropped last line tells whether the one's ahead of it is as it was
        int ahead = lines > 1 ? (int) x.of(lines - 2, 0) : 0;
        all.add(x.drop());
        all.add(x.line(ahead - 1, 1, 1, false, 0, 0, 0));
        all.add(x.line(ahead, 9, 9, false, 0, 1, 12));
        all.add(x.entry(2, 9, 0, 1));
        counts(x, all);
        all.add(x.clear());
        counts(x, all);
        return all;
    }

    private void tell(Asked x, List<Long> all) {
        counts(x, all);
        for (int line = 0; line < lines; line++) {
            for (int what = 0; what < 8; what++) {
                all.add(x.of(line, what));
            }
            all.add(x.counter(line, 1 + line % 3));
        }
        for (int entry = 0; entry < entries; entry++) {
            all.add(x.partner(entry));
        }
        // in a full book not each page, as an object answers but 512 calls
        for (int page = 0; page < pages; page += pages > 20 ? 4 : 1) {
            all.add(x.shift(page));
            all.add(x.span(page));
            all.add(x.wrong(page));
        }
    }

    private static void counts(Asked x, List<Long> all) {
        for (int what = 0; what < 9; what++) {
            all.add(x.count(what));
        }
    }

    private void refused(String call, long answer, ToLongFunction<Asked> refusedCall) {
        String told = "on " + name + " " + call;
        Asked x = maker.get();
        SENTENCES.due(told, refusedCall.applyAsLong(x), answer);
        same(told, everything(x), dueUnasked);
        Asked y = maker.get();
        askAll(y);
        SENTENCES.due(told + " behind questions", refusedCall.applyAsLong(y), answer);
        same(told + " behind questions", everything(y), dueAsked);
    }

    private static void same(String call, List<Long> got, List<Long> want) {
        SENTENCES.due(call + ": answers behind it", got.size(), want.size());
        for (int k = 0; k < Math.min(got.size(), want.size()); k++) {
            SENTENCES.due(call + ": answer " + k + " behind it", got.get(k), want.get(k));
        }
    }

    private void book() {
        SENTENCES.by("Promise 2", "Refused: another n.");
        for (int n : new int[] {MIN, -60, -1, 0, 61, 62, 1000, MAX}) {
            refused("book(" + n + ")", Asked.NO, x -> x.book(n));
        }
    }

    private int[] badPages() {
        return new int[] {MIN, -pages, -1, pages, pages + 1, 60, 61, MAX};
    }

    private void read() {
        SENTENCES.by("Promise 3", "Refused: others.");
        for (int page : badPages()) {
            refused("read(" + page + ", 5)", Asked.NO, x -> x.read(page, 5));
            refused("read(" + page + ", 0)", Asked.NO, x -> x.read(page, 0));
        }
        for (int number : new int[] {MIN, -999, -1, 1000, 1001, MAX}) {
            refused("read(0, " + number + ")", Asked.NO, x -> x.read(0, number));
            refused("read(" + (pages - 1) + ", " + number + ")", Asked.NO, x -> x.read(pages - 1, number));
        }
    }

    private void refusedLine(String why, int page, int size, int blank, int a, int b, int numbers) {
        refused("line with " + why, Asked.NONE, x -> x.line(page, size, blank, false, a, b, numbers));
    }

    private void linePage() {
        SENTENCES.by("Promise 4", "Refused: others (a PAGE)");
        for (int page : badPages()) {
            refusedLine("page " + page, page, 1, 1, 0, 0, 0);
        }
        if (lines > 0) {
            SENTENCES.by("Promise 4", "a PAGE less than the one's ahead");
            int ahead = (int) maker.get().of(lines - 1, 0);
            for (int page = 0; page < ahead; page++) {
                refusedLine("page " + page, page, 1, 1, 0, 0, 0);
            }
        }
    }

    private void lineLook() {
        SENTENCES.by("Promise 4", "Refused: others (SIZE, BLANK)");
        for (int bad : new int[] {MIN, -9, -1, 10, 11, 100, MAX}) {
            refusedLine("size " + bad, pages - 1, bad, 1, 0, 0, 0);
            refusedLine("blank " + bad, pages - 1, 1, bad, 0, 0, 0);
        }
    }

    private void lineWords() {
        SENTENCES.by("Promise 4", "Refused: others (WORDS)");
        for (int letter : new int[] {27, 28, 127, 128, 255}) {
            for (int bits = 0; bits < 32; bits += 8) {
                int four = letter << bits;
                refusedLine("letter " + letter + " in a, bits " + bits, pages - 1, 1, 1, four, 0, 0);
                refusedLine("letter " + letter + " in b, bits " + bits, pages - 1, 1, 1, 0, four, 0);
            }
        }
    }

    private void lineNumbers() {
        SENTENCES.by("Promise 4", "Refused: others (NUMBERS)");
        for (int bad : BAD_NUMBERS) {
            refusedLine("numbers " + bad, pages - 1, 1, 1, 0, 0, bad);
        }
    }

    private void right() {
        SENTENCES.by("Promise 5", "Refused: others.");
        for (int line : new int[] {MIN, -1, lines, lines + 1, 20, 21, MAX}) {
            refused("right(" + line + ", 3, 2)", Asked.NO, x -> x.right(line, 3, 2));
        }
        for (int line = 0; line < Math.max(1, lines); line += 5) {
            int k = line;
            for (int size : new int[] {MIN, -1, 10, 11, MAX}) {
                refused("right(" + k + ", " + size + ", 12)", Asked.NO, x -> x.right(k, size, 12));
            }
            for (int bad : BAD_NUMBERS) {
                refused("right(" + k + ", 6, " + bad + ")", Asked.NO, x -> x.right(k, 6, bad));
            }
        }
    }

    private void full() {
        if (lines == 20) {
            SENTENCES.by("Promise 4", "Refused: .. 20.");
            refusedLine("all as it should be", pages - 1, 9, 9, 1, 1, 1);
            refusedLine("all as it should be", pages - 1, 0, 0, 0, 0, 0);
        }
        if (entries == 12) {
            SENTENCES.by("Promise 12", "Refused: .. 12.");
            refused("entry(1, 1, 1, 1)", Asked.NONE, x -> x.entry(1, 1, 1, 1));
            refused("entry(3, 0, 0, 0)", Asked.NONE, x -> x.entry(3, 0, 0, 0));
        }
    }

    private void empty() {
        if (lines == 0) {
            SENTENCES.by("Promise 6", "NONE without one.");
            refused("drop()", Asked.NONE, Asked::drop);
        }
        if (entries == 0) {
            SENTENCES.by("Promise 13", "THE LIST is empty: how many it had.");
            refused("clear()", 0, Asked::clear);
        }
    }

    private void price() {
        SENTENCES.by("Promise 7", "Refused: others.");
        for (int what = 0; what < 10; what++) {
            int w = what;
            for (int v : new int[] {MIN, -50, -1, 51, 52, MAX}) {
                refused("price(" + w + ", " + v + ")", Asked.NONE, x -> x.price(w, v));
            }
        }
        for (int what : new int[] {MIN, -1, 10, 11, MAX}) {
            refused("price(" + what + ", 7)", Asked.NONE, x -> x.price(what, 7));
        }
    }

    private void want() {
        SENTENCES.by("Promise 8", "Refused: others.");
        for (int level = 1; level <= 3; level++) {
            int l = level;
            for (int v : new int[] {MIN, -1, 22, 23, 60, MAX}) {
                refused("want(" + l + ", " + v + ")", Asked.NONE, x -> x.want(l, v));
            }
        }
        for (int v : new int[] {MIN, -1, 0, 1, 61, 62, MAX}) {
            refused("want(0, " + v + ")", Asked.NONE, x -> x.want(0, v));
        }
        for (int level : new int[] {MIN, -1, 4, 5, MAX}) {
            refused("want(" + level + ", 7)", Asked.NONE, x -> x.want(level, 7));
        }
    }

    private void count() {
        SENTENCES.by("Promise 9", "NONE for another what.");
        for (int what : new int[] {MIN, -9, -1, 9, 10, MAX}) {
            refused("count(" + what + ")", Asked.NONE, x -> x.count(what));
        }
    }

    private void of() {
        SENTENCES.by("Promise 10", "NoSuchElementException: none such, another what.");
        for (int line : new int[] {MIN, -1, lines, lines + 1, 20, MAX}) {
            for (int what = -1; what <= 8; what++) {
                int w = what;
                refused("of(" + line + ", " + w + ")", Asked.THROWN, x -> x.of(line, w));
            }
        }
        for (int what : new int[] {MIN, -1, 8, 9, MAX}) {
            refused("of(0, " + what + ")", Asked.THROWN, x -> x.of(0, what));
            refused("of(" + (lines - 1) + ", " + what + ")", Asked.THROWN, x -> x.of(lines - 1, what));
        }
    }

    private void counter() {
        SENTENCES.by("Promise 11", "NONE: none such.");
        for (int line : new int[] {MIN, -1, lines, lines + 1, 20, MAX}) {
            for (int level = 0; level <= 4; level++) {
                int l = level;
                refused("counter(" + line + ", " + l + ")", Asked.NONE, x -> x.counter(line, l));
            }
        }
        for (int level : new int[] {MIN, -1, 0, 4, 5, MAX}) {
            refused("counter(0, " + level + ")", Asked.NONE, x -> x.counter(0, level));
            refused("counter(" + (lines - 1) + ", " + level + ")", Asked.NONE, x -> x.counter(lines - 1, level));
        }
    }

    private void entry() {
        SENTENCES.by("Promise 12", "Refused: others");
        for (int level : new int[] {MIN, -1, 0, 4, 5, MAX}) {
            refused("entry(" + level + ", 1, 0, 0)", Asked.NONE, x -> x.entry(level, 1, 0, 0));
        }
        for (int number : new int[] {MIN, -1, 1000, 1001, MAX}) {
            refused("entry(1, " + number + ", 0, 0)", Asked.NONE, x -> x.entry(1, number, 0, 0));
        }
        for (int letter : new int[] {27, 28, 127, 128, 255}) {
            for (int bits = 0; bits < 32; bits += 8) {
                int four = letter << bits;
                refused("entry(1, 1, " + four + ", 0)", Asked.NONE, x -> x.entry(1, 1, four, 0));
                refused("entry(1, 1, 0, " + four + ")", Asked.NONE, x -> x.entry(1, 1, 0, four));
            }
        }
    }

    private void partner() {
        SENTENCES.by("Promise 14", "NONE without, or for no such.");
        for (int entry : new int[] {MIN, -1, entries, entries + 1, 12, 13, MAX}) {
            refused("partner(" + entry + ")", Asked.NONE, x -> x.partner(entry));
        }
    }

    private void pageQuestions() {
        for (int page : badPages()) {
            SENTENCES.by("Promise 15", "NoSuchElementException: no such PAGE.");
            refused("shift(" + page + ")", Asked.THROWN, x -> x.shift(page));
            SENTENCES.by("Promise 16", "NONE: no such PAGE.");
            refused("span(" + page + ")", Asked.NONE, x -> x.span(page));
            SENTENCES.by("Promise 17", "NONE: no such PAGE.");
            refused("wrong(" + page + ")", Asked.NONE, x -> x.wrong(page));
        }
    }
}
