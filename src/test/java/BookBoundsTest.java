/** The bounds of term 1 and of the promises that make a book: the last value allowed, and the first one beyond. */
public final class BookBoundsTest {
    private static final Sentences S = new Sentences();
    private static final long NONE = Asked.NONE;
    private static final long YES = Asked.YES;
    private static final long NO = Asked.NO;
    private static final long THROWN = Asked.THROWN;

    public static void main(String[] args) {
        atFirst();
        pagesOfBook();
        firstAndLastPage();
        bookForgets();
        bookKeepsPrices();
        readNumbers();
        noReadNumber();
        linesAtMost();
        pageOfLine();
        sizes();
        blanks();
        looks();
        letters();
        partsOfNumbers();
        everyNumbers();
        rightPutsBoth();
        drops();
        prices();
        wants();
        many();
        runningNeedsWords();
        runningNeedsManyPages();
        runningOnPagesNotLines();
        runningLikeWordsAndSize();
        runningComesAndGoes();
        entriesAtMost();
        countsAndTheirWhats();
        S.end();
    }

    private static void atFirst() {
        S.by("Promise 1", "As told; no LINES, ENTRIES.");
        Asked x = new Asked();
        S.dueRow("count", x::count, 1, 0, 0, 0, 0, 0, 6, 1, 0, NONE);
        S.due("of(0, 0)", x.of(0, 0), THROWN);
        S.due("counter(0, 1)", x.counter(0, 1), NONE);
        S.due("partner(0)", x.partner(0), NONE);
        S.due("shift(0)", x.shift(0), 0);
        S.due("span(0)", x.span(0), 0);
        S.due("wrong(0)", x.wrong(0), 0);
        S.due("right(0, 1, 1)", x.right(0, 1, 1), NO);
        S.due("drop()", x.drop(), NONE);
        S.due("clear()", x.clear(), 0);
        S.by("Term 1", "PAGES 0 .. n - 1 (.. at first 1)");
        S.due("read(1, 1)", x.read(1, 1), NO);
        S.due("line on page 1", x.line(1, 0, 0, false, 0, 0, 0), NONE);
        S.due("shift(1)", x.shift(1), THROWN);
        S.due("span(1)", x.span(1), NONE);
        S.due("wrong(1)", x.wrong(1), NONE);
        S.due("read(0, 1)", x.read(0, 1), YES);
        S.due("line on page 0", x.line(0, 0, 0, false, 0, 0, 0), 0);
    }

    private static void pagesOfBook() {
        S.by("Term 1", "n 1 .. 60");
        Asked x = new Asked();
        for (int n = 1; n <= 60; n++) {
            S.due("book(" + n + ")", x.book(n), YES);
            S.due("count(0)", x.count(0), n);
        }
        S.due("book(0)", x.book(0), NO);
        S.due("book(61)", x.book(61), NO);
        S.due("count(0)", x.count(0), 60);
        S.due("book(1)", x.book(1), YES);
        S.due("book(0)", x.book(0), NO);
        S.due("book(61)", x.book(61), NO);
        S.due("count(0)", x.count(0), 1);
    }

    private static void firstAndLastPage() {
        S.by("Term 1", "PAGES 0 .. n - 1");
        for (int n : new int[] {1, 2, 59, 60}) {
            Asked x = Asked.withPages(n);
            S.due("read(-1, 1)", x.read(-1, 1), NO);
            S.due("read(n, 1)", x.read(n, 1), NO);
            S.due("read(0, 2)", x.read(0, 2), YES);
            S.due("read(n - 1, n + 1)", x.read(n - 1, n + 1), YES);
            S.due("line on -1", x.line(-1, 0, 0, false, 0, 0, 0), NONE);
            S.due("line on n", x.line(n, 0, 0, false, 0, 0, 0), NONE);
            S.due("line on 0", x.line(0, 0, 0, false, 0, 0, 0), 0);
            S.due("line on n - 1", x.line(n - 1, 0, 0, false, 0, 0, 0), 1);
            S.due("its page", x.of(1, 0), n - 1);
            for (int page : new int[] {0, n - 1}) {
                S.due("shift(" + page + ") of " + n, x.shift(page), 2);
                S.due("span(" + page + ") of " + n, x.span(page), 0);
                S.due("wrong(" + page + ") of " + n, x.wrong(page), 0);
            }
            for (int page : new int[] {-1, n}) {
                S.due("shift(" + page + ") of " + n, x.shift(page), THROWN);
                S.due("span(" + page + ") of " + n, x.span(page), NONE);
                S.due("wrong(" + page + ") of " + n, x.wrong(page), NONE);
            }
        }
    }

    private static void bookForgets() {
        S.by("Promise 2", "A book of n PAGES, without READ numbers, LINES, ENTRIES");
        for (int n : new int[] {1, 30, 60}) {
            Asked x = Asked.withPages(60);
            x.read(0, 9);
            x.read(29, 500);
            x.read(59, 999);
            x.own(59, 18, 1);
            x.entry(1, 999, 25 << 24 | 1 << 16, 0);
            // 9, 471 and 940 are three shifts: one span, two of them wrong
            S.dueRow("count ahead", x::count, 60, 1, 1, 1, 0, 0, 6 + 2 * 4, 1, 2);
            S.due("book(" + n + ")", x.book(n), YES);
            S.dueRow("count", x::count, n, 0, 0, 0, 0, 0, 6, 1, 0);
            S.due("of(0, 0)", x.of(0, 0), THROWN);
            S.due("counter(0, 1)", x.counter(0, 1), NONE);
            S.due("partner(0)", x.partner(0), NONE);
            S.due("drop()", x.drop(), NONE);
            S.due("clear()", x.clear(), 0);
            S.due("shift(n - 1)", x.shift(n - 1), 0);
            S.due("a line on page 0", x.own(0, 18, 1), 0);
            S.due("an entry", x.entry(1, 0, 0, 0), 0);
            S.due("book(60)", x.book(60), YES);
            S.dueRow("count, pages that come back", x::count, 60, 0, 0, 0, 0, 0, 6, 1, 0);
            S.due("shift(59)", x.shift(59), 0);
        }
    }

    private static void bookKeepsPrices() {
        S.by("Promise 2", "without READ numbers, LINES, ENTRIES (and nothing else is gone)");
        Asked x = new Asked();
        for (int what = 0; what < 10; what++) {
            x.price(what, 40 + what);
        }
        x.want(0, 60);
        for (int level = 1; level <= 3; level++) {
            x.want(level, level);
        }
        x.book(2);
        S.dueRow("price", what -> x.price(what, 1), 40, 41, 42, 43, 44, 45, 46, 47, 48, 49);
        S.dueRow("want", level -> x.want(level, 5), 60, 1, 2, 3);
    }

    private static void readNumbers() {
        S.by("Term 1", "each with a READ number 1 .. 999");
        for (int page : new int[] {0, 1, 59}) {
            Asked x = Asked.withPages(60);
            S.due("read 1", x.read(page, 1), YES);
            S.due("shift of 1", x.shift(page), 1 - page);
            S.due("read 999", x.read(page, 999), YES);
            S.due("shift of 999", x.shift(page), 999 - page);
            S.due("read 1000", x.read(page, 1000), NO);
            S.due("read -1", x.read(page, -1), NO);
            S.due("shift still", x.shift(page), 999 - page);
            S.due("cost", x.count(6), 6);
        }
    }

    private static void noReadNumber() {
        S.by("Promise 3", "The READ number of a PAGE (0: none): true.");
        Asked x = Asked.withNumbers(5, 5, 5);
        S.due("wrong ahead", x.count(8), 2);
        S.due("read(0, 0)", x.read(0, 0), YES);
        S.due("wrong with one less", x.count(8), 1);
        S.due("read(1, 0)", x.read(1, 0), YES);
        S.due("shift by the last", x.shift(0), 3);
        S.due("read(2, 0)", x.read(2, 0), YES);
        S.due("shift without", x.shift(2), 0);
        S.due("wrong without", x.wrong(2), 0);
        S.due("read(2, 0) again", x.read(2, 0), YES);
        S.dueRow("count", x::count, 3, 0, 0, 0, 0, 0, 6, 1, 0);
    }

    private static void linesAtMost() {
        S.by("Term 1", "LINES 0 .. (at most 20), in order");
        Asked x = Asked.withPages(2);
        for (int k = 0; k < 20; k++) {
            S.due("line", x.line(k / 10, k % 10, 0, false, 0, 0, 0), k);
            S.due("count(1)", x.count(1), k + 1);
        }
        S.by("Promise 4", "Refused: .. 20.");
        S.due("a line more", x.line(1, 1, 1, false, 0, 0, 0), NONE);
        S.due("count(1)", x.count(1), 20);
        S.due("of(19, 1)", x.of(19, 1), 9);
        S.due("of(20, 1)", x.of(20, 1), THROWN);
        S.due("drop()", x.drop(), 19);
        S.due("a line again", x.line(1, 3, 0, false, 0, 0, 0), 19);
        S.due("of(19, 1)", x.of(19, 1), 3);
        S.due("a line more", x.line(1, 1, 1, false, 0, 0, 0), NONE);
    }

    private static void pageOfLine() {
        S.by("Term 1", "a PAGE (none less than the one's ahead)");
        Asked x = Asked.withPages(60);
        S.due("page 5", x.own(5, 1, 0), 0);
        S.due("page 4", x.own(4, 1, 0), NONE);
        S.due("page 0", x.own(0, 1, 0), NONE);
        S.due("page 5 again", x.own(5, 1, 0), 1);
        S.due("page 6", x.own(6, 1, 0), 2);
        S.due("page 5 behind 6", x.own(5, 1, 0), NONE);
        S.due("page 59", x.own(59, 1, 0), 3);
        S.due("page 58", x.own(58, 1, 0), NONE);
        S.due("page 59 again", x.own(59, 1, 0), 4);
        S.dueRow("page of", k -> x.of(k, 0), 5, 5, 6, 59, 59);
        x.drop();
        S.due("page 58, still one of 59 ahead", x.own(58, 1, 0), NONE);
        x.drop();
        S.due("page 5, one of 6 ahead", x.own(5, 1, 0), NONE);
        S.due("page 6, one of 6 ahead", x.own(6, 1, 0), 3);
        for (int k = 0; k < 4; k++) {
            x.drop();
        }
        S.due("page 0 without one ahead", x.own(0, 1, 0), 0);
    }

    private static void sizes() {
        S.by("Term 1", "SIZE 0 .. 9");
        Asked x = new Asked();
        S.due("line of -1", x.line(0, -1, 0, false, 0, 0, 0), NONE);
        S.due("line of 10", x.line(0, 10, 0, false, 0, 0, 0), NONE);
        for (int size = 0; size <= 9; size++) {
            S.due("line of " + size, x.line(0, size, 0, false, 0, 0, 0), size);
            S.due("look", x.of(size, 1), size);
        }
        S.by("Promise 5", "A LINE's SIZE .. put right: true. Refused: others.");
        for (int size = 0; size <= 9; size++) {
            S.due("right", x.right(3, size, 0), YES);
            S.due("look", x.of(3, 1), size);
        }
        S.due("right of 10", x.right(3, 10, 0), NO);
        S.due("right of -1", x.right(3, -1, 0), NO);
        S.due("look", x.of(3, 1), 9);
        S.due("look of another", x.of(4, 1), 4);
    }

    private static void blanks() {
        S.by("Term 1", "BLANK 0 .. 9");
        Asked x = new Asked();
        S.due("line of -1", x.line(0, 0, -1, false, 0, 0, 0), NONE);
        S.due("line of 10", x.line(0, 0, 10, false, 0, 0, 0), NONE);
        for (int blank = 0; blank <= 9; blank++) {
            S.due("line of " + blank, x.line(0, 0, blank, false, 0, 0, 0), blank);
            S.due("look", x.of(blank, 1), blank);
        }
        S.due("right keeps BLANK", x.right(9, 4, 0), YES);
        S.due("look", x.of(9, 1), 13);
    }

    private static void looks() {
        S.by("Term 1", "LOOK: SIZE and BLANK, and 3 if it is CENTRED.");
        Asked x = new Asked();
        int[] sizes = {0, 0, 9, 9, 0, 9, 5};
        int[] blanks = {0, 0, 9, 9, 9, 0, 2};
        for (int k = 0; k < sizes.length; k++) {
            x.line(0, sizes[k], blanks[k], k % 2 == 1, 0, 0, 0);
        }
        S.dueRow("look", k -> x.of(k, 1), 0, 3, 18, 21, 9, 12, 7);
        x.right(3, 0, 0);
        S.due("a centred one stays so", x.of(3, 1), 12);
    }

    private static void letters() {
        S.by("Term 1", "WORDS: eight places, each a letter 1 .. 26, or 0");
        for (int bits = 0; bits < 32; bits += 8) {
            Asked x = new Asked();
            int lines = 0;
            for (int letter = 0; letter <= 255; letter++) {
                boolean isOne = letter <= 26;
                int four = letter << bits;
                S.due("letter " + letter + " in a", x.line(0, 0, 0, false, four, 0, 0), isOne ? lines++ : NONE);
                if (lines == 20) {
                    x.book(1);
                    lines = 0;
                }
            }
            Asked y = new Asked();
            lines = 0;
            for (int letter = 0; letter <= 255; letter++) {
                boolean isOne = letter <= 26;
                int four = letter << bits;
                S.due("letter " + letter + " in b", y.line(0, 0, 0, false, 0, four, 0), isOne ? lines++ : NONE);
                if (lines == 20) {
                    y.book(1);
                    lines = 0;
                }
            }
        }
        int z = 26 << 24 | 26 << 16 | 26 << 8 | 26;
        Asked x = new Asked();
        S.due("26 in all places", x.line(0, 0, 0, false, z, z, 0), 0);
        S.due("0 in all places", x.line(0, 0, 0, false, 0, 0, 0), 1);
        S.due("27 in the last place alone", x.line(0, 0, 0, false, z, z + 1, 0), NONE);
        S.due("27 in the first place alone", x.line(0, 0, 0, false, z + (1 << 24), z, 0), NONE);
        S.due("-1", x.line(0, 0, 0, false, -1, -1, 0), NONE);
    }

    private static void partsOfNumbers() {
        S.by("Term 1", "NUMBERS: a row of 0 to 3 PARTS, each 1 .. 12");
        int[] units = {1, 100, 10000};
        for (int parts = 1; parts <= 3; parts++) {
            int others = parts == 1 ? 5 : parts == 2 ? 505 : 50505;
            for (int place = 0; place < parts; place++) {
                Asked x = new Asked();
                int with0 = others - 5 * units[place];
                S.due("PART 1", x.line(0, 0, 0, false, 0, 0, with0 + units[place]), 0);
                S.due("how many", x.of(0, 4), parts);
                S.due("PART 12", x.line(0, 0, 0, false, 0, 0, with0 + 12 * units[place]), 1);
                S.due("how many", x.of(1, 4), parts);
                S.due("PART 13", x.line(0, 0, 0, false, 0, 0, with0 + 13 * units[place]), NONE);
                S.due("PART 99", x.line(0, 0, 0, false, 0, 0, with0 + 99 * units[place]), NONE);
                if (place < parts - 1) {
                    S.due("PART 0", x.line(0, 0, 0, false, 0, 0, with0), NONE);
                }
                S.due("count(1)", x.count(1), 2);
            }
        }
        Asked x = new Asked();
        S.due("none", x.line(0, 0, 0, false, 0, 0, 0), 0);
        S.due("how many", x.of(0, 4), 0);
        S.due("four PARTS", x.line(0, 0, 0, false, 0, 0, 1010101), NONE);
        S.due("five PARTS", x.line(0, 0, 0, false, 0, 0, 101010101), NONE);
        S.due("the greatest", x.line(0, 0, 0, false, 0, 0, 121212), 1);
        S.due("one more", x.line(0, 0, 0, false, 0, 0, 121213), NONE);
    }

    private static void everyNumbers() {
        S.by("Promise 4", "NUMBERS by one: 0, or PARTS by hundreds, the first in the highest");
        int[] howMany = new int[1300000];
        java.util.Arrays.fill(howMany, -1);
        howMany[0] = 0;
        for (int p = 1; p <= 12; p++) {
            howMany[p] = 1;
            for (int q = 1; q <= 12; q++) {
                howMany[100 * p + q] = 2;
                for (int r = 1; r <= 12; r++) {
                    howMany[10000 * p + 100 * q + r] = 3;
                }
            }
        }
        ContentsFinder x = new ContentsFinder();
        for (int numbers = 0; numbers < howMany.length; numbers++) {
            if (numbers % 200 == 0) {
                x = new ContentsFinder();
                x.line(0, 0, 0, false, 0, 0, 0);
            }
            S.due("right to " + numbers, x.right(0, 1, numbers) ? YES : NO, howMany[numbers] < 0 ? NO : YES);
            if (howMany[numbers] >= 0) {
                S.due("how many of " + numbers, x.of(0, 4), howMany[numbers]);
            }
        }
    }

    private static void rightPutsBoth() {
        S.by("Promise 5", "A LINE's SIZE and NUMBERS are put right");
        Asked x = new Asked();
        x.line(0, 9, 9, false, 1, 0, 1);
        x.line(0, 9, 9, false, 2, 0, 2);
        S.due("heads", x.count(3), 2);
        S.due("right", x.right(1, 8, 12), YES);
        S.due("look", x.of(1, 1), 17);
        S.due("counter", x.counter(1, 1), 12);
        S.due("cost, with a GAP", x.count(4), 2 + 5);
        S.due("right, three PARTS", x.right(1, 8, 121212), YES);
        S.due("how many", x.of(1, 4), 3);
        S.due("no head any more", x.of(1, 3), 0);
        S.due("right, no PARTS", x.right(1, 8, 0), YES);
        S.due("how many", x.of(1, 4), 0);
        S.due("a head again", x.counter(1, 1), 2);
        S.due("line -1", x.right(-1, 8, 1), NO);
        S.due("line 2", x.right(2, 8, 1), NO);
        S.due("line 0", x.right(0, 9, 3), YES);
        S.due("counter behind it", x.counter(0, 1), 3);
    }

    private static void drops() {
        S.by("Promise 6", "The last LINE is gone: how many there are; NONE without one.");
        Asked x = Asked.withPages(20);
        for (int k = 0; k < 20; k++) {
            x.own(k, 18, 0);
        }
        S.due("heads", x.count(3), 20);
        for (int k = 19; k >= 0; k--) {
            S.due("drop()", x.drop(), k);
            S.due("count(1)", x.count(1), k);
            S.due("heads", x.count(3), k);
            S.due("of the last", x.of(k, 0), THROWN);
            S.due("of the one ahead", x.of(k - 1, 0), k == 0 ? THROWN : k - 1);
        }
        S.due("drop() without one", x.drop(), NONE);
        S.due("drop() without one", x.drop(), NONE);
        S.due("count(1)", x.count(1), 0);
        S.due("line", x.own(0, 18, 0), 0);
    }

    private static void prices() {
        S.by("Term 1", "PRICES (each 0 .. 50): 0 TEXT (1), 1 HEAD (2), 2 GAP (5), .. 9 WRONG (4).");
        int[] atFirst = {1, 2, 5, 1, 2, 4, 3, 12, 6, 4};
        Asked x = new Asked();
        for (int what = 0; what < 10; what++) {
            S.due("price " + what + " to 50", x.price(what, 50), atFirst[what]);
            S.due("price " + what + " to 51", x.price(what, 51), NONE);
            S.due("price " + what + " to 0", x.price(what, 0), 50);
            S.due("price " + what + " to -1", x.price(what, -1), NONE);
            S.due("price " + what + " to 20", x.price(what, 20 + what), 0);
        }
        S.due("price -1", x.price(-1, 1), NONE);
        S.due("price 10", x.price(10, 1), NONE);
        S.dueRow("price", what -> x.price(what, 1), 20, 21, 22, 23, 24, 25, 26, 27, 28, 29);
    }

    private static void wants() {
        S.by("Term 1", "WANT of LEVELS 1, 2, 3 (0 .. 21): 18, 13, 8.");
        int[] atFirst = {0, 18, 13, 8};
        Asked x = new Asked();
        for (int level = 1; level <= 3; level++) {
            S.due("want " + level + " to 21", x.want(level, 21), atFirst[level]);
            S.due("want " + level + " to 22", x.want(level, 22), NONE);
            S.due("want " + level + " to 0", x.want(level, 0), 21);
            S.due("want " + level + " to -1", x.want(level, -1), NONE);
            S.due("want " + level + " to its own", x.want(level, 5 + level), 0);
        }
        S.due("want -1", x.want(-1, 5), NONE);
        S.due("want 4", x.want(4, 5), NONE);
        S.dueRow("want", level -> x.want(level, 2), 3, 6, 7, 8);
    }

    private static void many() {
        S.by("Term 1", "MANY (2 .. 60): 3.");
        Asked x = new Asked();
        S.due("to 2", x.want(0, 2), 3);
        S.due("to 1", x.want(0, 1), NONE);
        S.due("to 0", x.want(0, 0), NONE);
        S.due("to -1", x.want(0, -1), NONE);
        S.due("to 60", x.want(0, 60), 2);
        S.due("to 61", x.want(0, 61), NONE);
        S.due("to 22, beyond what a WANT may be", x.want(0, 22), 60);
        S.due("to 59", x.want(0, 59), 22);
        S.due("what it was", x.want(0, 3), 59);
        S.dueRow("the WANTS are as they were", level -> x.want(level + 1, 1), 18, 13, 8);
    }

    private static Asked onPages(int n, int a, int b) {
        Asked x = Asked.withPages(60);
        for (int k = 0; k < n; k++) {
            x.line(k, 4, 2, false, a, b, 0);
        }
        return x;
    }

    private static void runningNeedsWords() {
        S.by("Term 1", "RUNNING, if its WORDS are not all 0");
        Asked without = onPages(20, 0, 0);
        without.want(0, 2);
        S.due("all 0", without.of(0, 2), 0);
        S.due("all 0", without.of(19, 2), 0);
        for (int bits = 0; bits < 32; bits += 8) {
            Asked x = onPages(3, 1 << bits, 0);
            S.due("a letter in a", x.of(0, 2), 1);
            Asked y = onPages(3, 0, 1 << bits);
            S.due("a letter in b", y.of(2, 2), 1);
        }
    }

    private static void runningNeedsManyPages() {
        S.by("Term 1", "on MANY PAGES or more there are LINES of like WORDS and SIZE");
        for (int pages : new int[] {1, 2, 3, 4, 19, 20}) {
            Asked x = onPages(pages, 7, 7);
            for (int many : new int[] {2, 3, 4, 5, 19, 20, 21, 60}) {
                x.want(0, many);
                long due = pages >= many ? 1 : 0;
                S.due("of the first of " + pages + ", MANY " + many, x.of(0, 2), due);
                S.due("of the last of " + pages + ", MANY " + many, x.of(pages - 1, 2), due);
                S.due("cost of " + pages + ", MANY " + many, x.count(4), due == 1 ? 0 : 6 * pages);
            }
        }
    }

    private static void runningOnPagesNotLines() {
        S.by("Term 1", "on MANY PAGES (not LINES)");
        Asked x = Asked.withPages(3);
        int[] pages = {0, 0, 0, 1, 1, 2};
        for (int k = 0; k < pages.length; k++) {
            x.line(pages[k], 4, 2, false, 7, 7, 0);
            long due = pages[k] == 2 ? 1 : 0;
            for (int ahead = 0; ahead <= k; ahead++) {
                S.due("of(" + ahead + ", 2) of " + (k + 1), x.of(ahead, 2), due);
            }
        }
        S.by("Term 1", "on MANY PAGES (others between them)");
        Asked y = Asked.withPages(60);
        for (int k = 0; k < 6; k++) {
            y.line(10 * k, 4, 2, false, 7 + k % 2, 7, 0);
        }
        S.dueRow("running", k -> y.of(k, 2), 1, 1, 1, 1, 1, 1);
        y.drop();
        S.dueRow("running", k -> y.of(k, 2), 1, 0, 1, 0, 1);
    }

    private static void runningLikeWordsAndSize() {
        S.by("Term 1", "LINES of like WORDS and SIZE");
        for (int bits = 0; bits < 32; bits += 8) {
            for (int half = 0; half < 2; half++) {
                Asked x = onPages(2, 0x05050505, 0x05050505);
                int other = 0x05050505 + (1 << bits);
                x.line(2, 4, 2, false, half == 0 ? other : 0x05050505, half == 1 ? other : 0x05050505, 0);
                S.dueRow("one place unlike", k -> x.of(k, 2), 0, 0, 0);
            }
        }
        for (int size : new int[] {3, 5}) {
            Asked x = onPages(2, 7, 7);
            x.line(2, size, 2, false, 7, 7, 0);
            S.dueRow("another SIZE", k -> x.of(k, 2), 0, 0, 0);
        }
        Asked x = onPages(2, 7, 7);
        x.line(2, 4, 9, true, 7, 7, 121212);
        S.dueRow("another BLANK, CENTRED, NUMBERS", k -> x.of(k, 2), 1, 1, 1);
        x.line(2, 5, 9, true, 7, 7, 121212);
        S.due("another SIZE beside them", x.of(3, 2), 0);
        S.due("those are as they were", x.of(2, 2), 1);
    }

    private static void runningComesAndGoes() {
        S.by("Promise 10", "2: RUNNING (1, 0)");
        Asked x = onPages(3, 7, 7);
        S.dueRow("running", k -> x.of(k, 2), 1, 1, 1);
        x.right(1, 5, 0);
        S.dueRow("one put right to another SIZE", k -> x.of(k, 2), 0, 0, 0);
        x.right(1, 4, 12);
        S.dueRow("and back", k -> x.of(k, 2), 1, 1, 1);
        x.drop();
        S.dueRow("one dropped", k -> x.of(k, 2), 0, 0);
        x.want(0, 2);
        S.dueRow("MANY less", k -> x.of(k, 2), 1, 1);
    }

    private static void entriesAtMost() {
        S.by("Term 3", "at most 12 ENTRIES");
        Asked x = new Asked();
        for (int round = 0; round < 2; round++) {
            for (int k = 0; k < 12; k++) {
                S.due("count(2)", x.count(2), k);
                S.due("entry", x.entry(1 + k % 3, k, 0, 0), k);
            }
            S.due("an entry more", x.entry(1, 0, 0, 0), NONE);
            S.due("count(2)", x.count(2), 12);
            S.by("Promise 13", "THE LIST is empty: how many it had.");
            S.due("clear()", x.clear(), 12);
            S.due("clear() of an empty one", x.clear(), 0);
            S.due("count(2)", x.count(2), 0);
        }
        S.due("entry", x.entry(1, 0, 0, 0), 0);
        S.due("clear() of one", x.clear(), 1);
    }

    private static void countsAndTheirWhats() {
        S.by("Promise 9", "What 0: PAGES, .. 8: READ numbers that are WRONG. NONE for another what.");
        Asked x = Asked.withNumbers(1, 2, 40, 4);
        x.own(0, 18, 2);
        x.own(3, 4, 0);
        x.entry(1, 1, 0, 0);
        // a GAP and a text of LOOK 4; two places of WORDS unlike; one number of four wrong
        S.dueRow("count", x::count, 4, 2, 1, 1, 5 + 4, 4, 6 + 4, 1, 1, NONE);
        S.due("count(-1)", x.count(-1), NONE);
        S.due("count(MIN)", x.count(Integer.MIN_VALUE), NONE);
        S.due("count(MAX)", x.count(Integer.MAX_VALUE), NONE);
    }
}
