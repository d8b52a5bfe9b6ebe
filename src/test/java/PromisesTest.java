import java.util.NoSuchElementException;

/** One method a promise: ordinary inputs, the edges that the document names, wrong inputs. */
public final class PromisesTest {
    private static final int[] ODD = {Integer.MIN_VALUE, -100, -1, 1000, 121213, Integer.MAX_VALUE};
    private static int wrong = 0;
    private static String promise = "";

    public static void main(String[] args) {
        newObject();
        book();
        read();
        line();
        lineNumbers();
        right();
        drop();
        price();
        pricesOfTree();
        pricesOfListAndShifts();
        want();
        many();
        count();
        of();
        ofParts();
        running();
        runningIsNoHead();
        treeTies();
        treeRules();
        counter();
        entry();
        clear();
        partner();
        partnerTies();
        shift();
        shiftTies();
        span();
        wrongNumbers();
        System.out.println(wrong == 0 ? "all promises hold" : wrong + " answers are not as due");
        if (wrong != 0) {
            System.exit(1);
        }
    }

    private static void due(String call, long got, long want) {
        if (got != want) {
            wrong++;
            System.out.println(promise + ": " + call + " answered " + got + ", due is " + want);
        }
    }

    private static void due(String call, boolean got, boolean want) {
        due(call, got ? 1 : 0, want ? 1 : 0);
    }

    private static void noSuchLine(ContentsFinder x, int line, int what) {
        boolean thrown = false;
        try {
            x.of(line, what);
        } catch (NoSuchElementException e) {
            thrown = true;
        }
        due("of(" + line + ", " + what + ") throws", thrown, true);
    }

    private static void noSuchPage(ContentsFinder x, int page) {
        boolean thrown = false;
        try {
            x.shift(page);
        } catch (NoSuchElementException e) {
            thrown = true;
        }
        due("shift(" + page + ") throws", thrown, true);
    }

    private static int words(int a, int b, int c, int d) {
        return a << 24 | b << 16 | c << 8 | d;
    }

    private static int fourOf(int letter) {
        return words(letter, letter, letter, letter);
    }

    /** A line whose words are its own, so that it is no running one. */
    private static int plain(ContentsFinder x, int page, int size, int blank, int numbers) {
        int k = x.count(1);
        return x.line(page, size, blank, false, words(k + 1, 1, 0, 0), 0, numbers);
    }

    private static void levels(ContentsFinder x, int... want) {
        for (int k = 0; k < want.length; k++) {
            due("of(" + k + ", 3)", x.of(k, 3), want[k]);
        }
    }

    private static ContentsFinder bookOf(int n) {
        ContentsFinder x = new ContentsFinder();
        due("book(" + n + ")", x.book(n), true);
        return x;
    }

    private static ContentsFinder numbered(int... numbers) {
        ContentsFinder x = bookOf(numbers.length);
        for (int page = 0; page < numbers.length; page++) {
            due("read(" + page + ")", x.read(page, numbers[page]), true);
        }
        return x;
    }

    private static void newObject() {
        promise = "1 a new object";
        ContentsFinder x = new ContentsFinder();
        int[] counts = {1, 0, 0, 0, 0, 0, 6, 1, 0};
        for (int what = 0; what < counts.length; what++) {
            due("count(" + what + ")", x.count(what), counts[what]);
        }
        due("drop()", x.drop(), -1);
        due("clear()", x.clear(), 0);
        due("shift(0)", x.shift(0), 0);
        int[] prices = {1, 2, 5, 1, 2, 4, 3, 12, 6, 4};
        for (int what = 0; what < prices.length; what++) {
            due("price(" + what + ")", x.price(what, 0), prices[what]);
        }
        int[] wants = {3, 18, 13, 8};
        for (int level = 0; level < wants.length; level++) {
            due("want(" + level + ")", x.want(level, 2), wants[level]);
        }
        due("NONE", ContentsFinder.NONE, -1);
    }

    private static void book() {
        promise = "2 book";
        ContentsFinder x = bookOf(60);
        due("count(0)", x.count(0), 60);
        due("read(59, 7)", x.read(59, 7), true);
        plain(x, 59, 9, 9, 1);
        x.entry(1, 7, 0, 0);
        x.price(7, 11);
        x.want(1, 17);
        for (int n : new int[] {0, -1, 61, Integer.MAX_VALUE, Integer.MIN_VALUE}) {
            due("book(" + n + ")", x.book(n), false);
        }
        due("count(0) after refusals", x.count(0), 60);
        due("count(1) after refusals", x.count(1), 1);
        due("count(2) after refusals", x.count(2), 1);
        due("shift(59) after refusals", x.shift(59), -52);
        due("book(60) again", x.book(60), true);
        due("count(1)", x.count(1), 0);
        due("count(2)", x.count(2), 0);
        due("count(3)", x.count(3), 0);
        due("count(4)", x.count(4), 0);
        due("count(5)", x.count(5), 0);
        due("shift(59)", x.shift(59), 0);
        due("partner(0)", x.partner(0), -1);
        due("price(7) is kept", x.price(7, 12), 11);
        due("want(1) is kept", x.want(1, 18), 17);
        due("line on page 0", plain(x, 0, 0, 0, 0), 0);
        due("book(1)", x.book(1), true);
        due("count(0)", x.count(0), 1);
    }

    private static void read() {
        promise = "3 read";
        ContentsFinder x = bookOf(3);
        due("read(2, 999)", x.read(2, 999), true);
        due("shift(2)", x.shift(2), 997);
        due("read(2, 0)", x.read(2, 0), true);
        due("shift(2)", x.shift(2), 0);
        due("read(2, 1)", x.read(2, 1), true);
        due("shift(2)", x.shift(2), -1);
        for (int odd : ODD) {
            due("read(" + odd + ", 1)", x.read(odd, 1), false);
            due("read(2, " + odd + ")", x.read(2, odd), false);
        }
        due("read(3, 5)", x.read(3, 5), false);
        due("shift(2) after refusals", x.shift(2), -1);
    }

    private static void line() {
        promise = "4 line";
        ContentsFinder x = bookOf(4);
        int z = words(26, 26, 26, 26);
        due("line", x.line(1, 9, 9, true, z, z, 121212), 0);
        due("page less", x.line(0, 1, 1, false, 0, 0, 0), -1);
        due("page beyond", x.line(4, 1, 1, false, 0, 0, 0), -1);
        due("page -1", new ContentsFinder().line(-1, 1, 1, false, 0, 0, 0), -1);
        due("page 1 of 1", new ContentsFinder().line(1, 1, 1, false, 0, 0, 0), -1);
        for (int odd : ODD) {
            due("page " + odd, x.line(odd, 1, 1, false, 0, 0, 0), -1);
            due("size " + odd, x.line(1, odd, 1, false, 0, 0, 0), -1);
            due("blank " + odd, x.line(1, 1, odd, false, 0, 0, 0), -1);
        }
        due("size 10", x.line(1, 10, 1, false, 0, 0, 0), -1);
        due("blank 10", x.line(1, 1, 10, false, 0, 0, 0), -1);
        for (int bits = 0; bits < 32; bits += 8) {
            for (int letter : new int[] {27, 128, 255}) {
                due("first word " + letter, x.line(1, 1, 1, false, letter << bits, 0, 0), -1);
                due("last word " + letter, x.line(1, 1, 1, false, 0, letter << bits, 0), -1);
            }
        }
        due("count(1) after refusals", x.count(1), 1);
        for (int k = 1; k < 20; k++) {
            due("line " + k, x.line(k < 10 ? 1 : 3, 0, 0, false, 0, 0, 0), k);
        }
        due("line 20", x.line(3, 0, 0, false, 0, 0, 0), -1);
        due("count(1)", x.count(1), 20);
    }

    private static void lineNumbers() {
        promise = "4 line, numbers";
        ContentsFinder x = new ContentsFinder();
        int[] bad = {13, 99, 100, 113, 1301, 1200, 10001, 10100, 11301, 130101, 121213, 121300, 1010101, 9999,
            10213, -1, -101, -10203, Integer.MIN_VALUE, Integer.MAX_VALUE};
        for (int numbers : bad) {
            due("line with " + numbers, x.line(0, 0, 0, false, 0, 0, numbers), -1);
        }
        int[] good = {0, 1, 12, 101, 1212, 112, 1201, 10101, 10203, 121212, 10112, 120101};
        int[] parts = {0, 1, 1, 2, 2, 2, 2, 3, 3, 3, 3, 3};
        for (int k = 0; k < good.length; k++) {
            due("line with " + good[k], x.line(0, 0, 0, false, 0, 0, good[k]), k);
            due("parts of " + good[k], x.of(k, 4), parts[k]);
        }
    }

    private static void right() {
        promise = "5 right";
        ContentsFinder x = bookOf(2);
        plain(x, 0, 3, 9, 2);
        due("cost", x.count(4), 12);
        due("right", x.right(0, 9, 1), true);
        due("look", x.of(0, 1), 18);
        due("cost", x.count(4), 0);
        due("right, three parts", x.right(0, 0, 10203), true);
        due("parts", x.of(0, 4), 3);
        due("right, one part", x.right(0, 0, 12), true);
        due("parts", x.of(0, 4), 1);
        due("right, without", x.right(0, 9, 0), true);
        due("parts", x.of(0, 4), 0);
        for (int odd : ODD) {
            due("line " + odd, x.right(odd, 1, 1), false);
            due("size " + odd, x.right(0, odd, 1), false);
            due("numbers " + odd, x.right(0, 1, odd), false);
        }
        due("line 1", x.right(1, 1, 1), false);
        due("size 10", x.right(0, 10, 1), false);
        due("numbers 13", x.right(0, 1, 13), false);
        due("numbers 100", x.right(0, 1, 100), false);
        due("look after refusals", x.of(0, 1), 18);
        due("parts after refusals", x.of(0, 4), 0);
    }

    private static void drop() {
        promise = "6 drop";
        ContentsFinder x = bookOf(5);
        plain(x, 0, 9, 9, 1);
        plain(x, 4, 9, 9, 2);
        due("heads", x.count(3), 2);
        due("last page", x.of(0, 5), 4);
        due("drop()", x.drop(), 1);
        due("heads", x.count(3), 1);
        noSuchLine(x, 1, 0);
        due("counter(1, 1)", x.counter(1, 1), -1);
        due("an earlier page is free again", plain(x, 1, 9, 9, 2), 1);
        due("drop()", x.drop(), 1);
        due("drop()", x.drop(), 0);
        due("drop()", x.drop(), -1);
        due("count(1)", x.count(1), 0);
        due("cost", x.count(4), 0);
    }

    private static void price() {
        promise = "7 price";
        ContentsFinder x = new ContentsFinder();
        int[] prices = {1, 2, 5, 1, 2, 4, 3, 12, 6, 4};
        for (int what = 0; what < prices.length; what++) {
            due("price(" + what + ", 50)", x.price(what, 50), prices[what]);
            due("price(" + what + ", 51)", x.price(what, 51), -1);
            due("price(" + what + ", -1)", x.price(what, -1), -1);
            due("price(" + what + ", 0)", x.price(what, 0), 50);
            due("price(" + what + ", 7)", x.price(what, 7), 0);
        }
        for (int odd : ODD) {
            due("price(" + odd + ", 1)", x.price(odd, 1), -1);
            due("price(0, " + odd + ")", x.price(0, odd), -1);
        }
        due("price(10, 1)", x.price(10, 1), -1);
        due("price(0) after refusals", x.price(0, 1), 7);
    }

    private static void pricesOfTree() {
        promise = "7 price, of the tree";
        ContentsFinder x = bookOf(9);
        plain(x, 0, 2, 1, 0);
        plain(x, 1, 9, 8, 1);
        plain(x, 2, 9, 9, 0);
        plain(x, 3, 9, 9, 4);
        levels(x, 0, 1, 1, 1);
        due("cost", x.count(4), 3 + 2 + 1 + 5);
        x.price(0, 2);
        due("cost by TEXT", x.count(4), 6 + 2 + 1 + 5);
        x.price(1, 3);
        due("cost by HEAD", x.count(4), 6 + 3 + 1 + 5);
        x.price(2, 9);
        due("cost by GAP", x.count(4), 6 + 3 + 1 + 9);
        x.price(3, 4);
        due("cost by PLAIN", x.count(4), 6 + 3 + 4 + 9);
        x.price(0, 0);
        due("all text", x.count(4), 0);
        due("heads", x.count(3), 0);
    }

    private static void pricesOfListAndShifts() {
        promise = "7 price, of the list and the shifts";
        ContentsFinder x = numbered(5, 0, 9);
        x.line(0, 9, 9, false, words(1, 2, 3, 4), words(5, 6, 7, 8), 1);
        x.line(2, 9, 9, false, words(9, 9, 9, 9), words(9, 9, 9, 9), 2);
        x.entry(3, 6, words(1, 2, 3, 5), words(5, 6, 8, 8));
        due("cost", x.count(5), 2 * 2 + 2 * 4 + 3 + 12);
        x.price(4, 1);
        due("cost by SLIP", x.count(5), 2 + 8 + 3 + 12);
        x.price(5, 3);
        due("cost by LEVEL", x.count(5), 2 + 6 + 3 + 12);
        x.price(6, 5);
        due("cost by PAGE", x.count(5), 2 + 6 + 5 + 12);
        x.price(7, 20);
        due("cost by MISS", x.count(5), 2 + 6 + 5 + 20);
        x.price(7, 1);
        due("all miss", x.count(5), 3);
        due("partner(0)", x.partner(0), -1);
        due("shifts", x.count(6), 6 + 4);
        x.price(9, 5);
        due("shifts by WRONG", x.count(6), 6 + 5);
        x.price(8, 2);
        due("shifts by SPAN", x.count(6), 2 * 2);
        due("spans", x.count(7), 2);
    }

    private static void want() {
        promise = "8 want";
        ContentsFinder x = bookOf(3);
        plain(x, 0, 9, 9, 1);
        plain(x, 1, 9, 4, 101);
        plain(x, 2, 4, 4, 10101);
        due("cost", x.count(4), 0);
        due("want(1, 21)", x.want(1, 21), 18);
        due("cost", x.count(4), 6);
        due("want(2, 12)", x.want(2, 12), 13);
        due("cost", x.count(4), 8);
        due("want(3, 10)", x.want(3, 10), 8);
        due("cost", x.count(4), 12);
        for (int level = 1; level <= 3; level++) {
            due("want(" + level + ", 22)", x.want(level, 22), -1);
            due("want(" + level + ", -1)", x.want(level, -1), -1);
        }
        for (int odd : ODD) {
            due("want(" + odd + ", 3)", x.want(odd, 3), -1);
        }
        due("want(4, 3)", x.want(4, 3), -1);
        due("want(1, 0)", x.want(1, 0), 21);
        due("want(2, 0)", x.want(2, 0), 12);
        due("want(3, 0)", x.want(3, 0), 10);
        due("want(3, 1)", x.want(3, 1), 0);
    }

    private static void many() {
        promise = "8 want, many";
        ContentsFinder x = bookOf(60);
        due("want(0, 1)", x.want(0, 1), -1);
        due("want(0, 61)", x.want(0, 61), -1);
        due("want(0, -1)", x.want(0, -1), -1);
        due("want(0, 60)", x.want(0, 60), 3);
        due("want(0, 2)", x.want(0, 2), 60);
        x.line(0, 9, 9, false, 0, 5, 0);
        due("running on one page", x.of(0, 2), 0);
        x.line(0, 9, 9, false, 0, 5, 0);
        due("running twice on one page", x.of(0, 2), 0);
        x.line(1, 9, 9, false, 0, 5, 0);
        due("running on two", x.of(0, 2), 1);
        due("running on two", x.of(1, 2), 1);
        due("heads", x.count(3), 0);
        due("want(0, 3)", x.want(0, 3), 2);
        due("running on two of three", x.of(2, 2), 0);
        due("heads", x.count(3), 3);
    }

    private static void count() {
        promise = "9 count";
        ContentsFinder x = numbered(1, 2, 30, 4);
        plain(x, 0, 9, 9, 1);
        plain(x, 1, 3, 1, 0);
        plain(x, 2, 9, 4, 102);
        x.entry(1, 1, words(1, 1, 0, 0), 0);
        x.entry(3, 0, words(9, 9, 9, 9), words(9, 9, 9, 9));
        int[] due = {4, 3, 2, 2, 9, 16 + 4 + 3, 10, 1, 1};
        for (int what = 0; what < due.length; what++) {
            due("count(" + what + ")", x.count(what), due[what]);
        }
        for (int odd : ODD) {
            due("count(" + odd + ")", x.count(odd), -1);
        }
        due("count(9)", x.count(9), -1);
    }

    private static void of() {
        promise = "10 of";
        ContentsFinder x = bookOf(10);
        x.line(3, 4, 2, true, 0, 0, 0);
        x.line(5, 9, 9, true, 0, 7, 0);
        due("page", x.of(0, 0), 3);
        due("page", x.of(1, 0), 5);
        due("look", x.of(0, 1), 9);
        due("look", x.of(1, 1), 21);
        due("level", x.of(1, 3), 1);
        due("parts", x.of(1, 4), 0);
        due("partner of a head", x.of(1, 6), -1);
        due("partner of text", x.of(0, 6), -1);
        due("part of text", x.of(0, 5), -1);
        due("head above text", x.of(0, 7), -1);
        for (int what = 0; what <= 7; what++) {
            noSuchLine(x, 2, what);
            noSuchLine(x, -1, what);
            noSuchLine(new ContentsFinder(), 0, what);
        }
        for (int odd : ODD) {
            noSuchLine(x, odd, 0);
            noSuchLine(x, 0, odd);
        }
        noSuchLine(x, 0, 8);
    }

    private static void ofParts() {
        promise = "10 of, parts and heads above";
        ContentsFinder x = bookOf(30);
        plain(x, 1, 9, 9, 1);
        plain(x, 2, 9, 4, 101);
        plain(x, 4, 4, 4, 10101);
        plain(x, 4, 0, 1, 0);
        plain(x, 6, 4, 4, 10102);
        plain(x, 8, 9, 4, 102);
        plain(x, 9, 4, 4, 10201);
        plain(x, 12, 9, 9, 2);
        plain(x, 12, 9, 4, 201);
        levels(x, 1, 2, 3, 0, 3, 2, 3, 1, 2);
        int[] last = {12, 8, 6, -1, 8, 12, 12, 29, 29};
        int[] above = {-1, 0, 1, -1, 1, 0, 5, -1, 7};
        for (int k = 0; k < last.length; k++) {
            due("of(" + k + ", 5)", x.of(k, 5), last[k]);
            due("of(" + k + ", 7)", x.of(k, 7), above[k]);
        }
    }

    private static void running() {
        promise = "10 of, running";
        ContentsFinder x = bookOf(9);
        for (int page = 0; page < 4; page++) {
            x.line(page, 9, 9, page == 1, 0, 0, 0);
            x.line(page, 8, page, page == 1, words(1, 0, 0, 0), 1, page);
            x.line(page, page < 2 ? 3 : 4, 1, false, words(2, 0, 0, 0), 1, 0);
            x.line(page, 3, 1, false, words(3, 0, 0, 0), page < 2 ? 1 : 2, 0);
        }
        for (int page = 0; page < 4; page++) {
            due("words of 0", x.of(4 * page, 2), 0);
            due("like words", x.of(4 * page + 1, 2), 1);
            due("level of a running one", x.of(4 * page + 1, 3), 0);
            due("other sizes", x.of(4 * page + 2, 2), 0);
            due("other last words", x.of(4 * page + 3, 2), 0);
        }
        x.right(2, 4, 0);
        due("size put right", x.of(2, 2), 1);
        due("size put right", x.of(14, 2), 1);
        due("still another size", x.of(6, 2), 0);
    }

    private static void runningIsNoHead() {
        promise = "10 of, running ones are no heads";
        ContentsFinder x = bookOf(3);
        x.line(0, 9, 9, false, 7, 0, 0);
        plain(x, 0, 9, 4, 0);
        x.line(1, 9, 9, false, 7, 0, 0);
        plain(x, 2, 9, 4, 0);
        levels(x, 1, 2, 1, 2);
        due("cost", x.count(4), 4);
        x.want(0, 2);
        levels(x, 0, 1, 0, 2);
        due("running ones cost nothing", x.count(4), 10 + 1 + 0 + 1);
        x.want(1, 9);
        x.price(0, 50);
        due("a level 2 needs a head, not a running one", x.of(1, 3), 1);
    }

    private static void treeTies() {
        promise = "10 of, ties of the tree";
        ContentsFinder x = bookOf(5);
        for (int what = 0; what < 4; what++) {
            x.price(what, 0);
        }
        plain(x, 0, 9, 9, 1);
        plain(x, 1, 9, 9, 0);
        levels(x, 0, 0);
        due("cost", x.count(4), 0);
        x.price(0, 50);
        levels(x, 1, 1);
        due("level 1 ahead of 2", x.of(1, 3), 1);
        x.right(1, 9, 101);
        levels(x, 1, 2);
        ContentsFinder y = bookOf(5);
        y.price(0, 7);
        y.want(1, 9);
        y.want(2, 9);
        plain(y, 0, 9, 0, 0);
        plain(y, 1, 9, 0, 0);
        levels(y, 1, 1);
        y.price(0, 0);
        levels(y, 0, 0);
    }

    private static void treeRules() {
        promise = "10 of, right heads";
        ContentsFinder x = bookOf(9);
        plain(x, 0, 9, 4, 101);
        due("no level 2 at first", x.of(0, 3), 0);
        x.right(0, 9, 0);
        plain(x, 1, 4, 4, 0);
        x.price(0, 50);
        x.want(1, 21);
        levels(x, 1, 2);
        due("a level 3 needs a level 2", x.count(4), 2 * 8 + 1 + 2 * 5 + 1);
        x.right(1, 4, 201);
        due("another number above", x.of(1, 3), 0);
        x.right(1, 4, 101);
        due("its own number above", x.of(1, 3), 2);
        plain(x, 2, 4, 4, 101);
        due("not above the counter", x.of(1, 3) + x.of(2, 3), 2);
        due("the less level first", x.of(1, 3), 0);
        x.right(2, 4, 102);
        due("above the counter", x.of(2, 3), 2);
        due("of two parts never level 1 or 3", x.of(1, 3), 2);
    }

    private static void counter() {
        promise = "11 counter";
        ContentsFinder x = bookOf(9);
        x.price(0, 50);
        plain(x, 0, 9, 9, 12);
        plain(x, 1, 9, 9, 0);
        plain(x, 2, 9, 4, 0);
        plain(x, 3, 4, 4, 0);
        plain(x, 4, 4, 4, 0);
        plain(x, 5, 9, 4, 0);
        plain(x, 6, 0, 0, 0);
        plain(x, 7, 9, 9, 0);
        levels(x, 1, 1, 2, 3, 3, 2, 0, 1);
        int[][] due = {{12, 0, 0}, {13, 0, 0}, {13, 1, 0}, {13, 1, 1}, {13, 1, 2}, {13, 2, 0}, {13, 2, 0}, {14, 0, 0}};
        for (int k = 0; k < due.length; k++) {
            for (int level = 1; level <= 3; level++) {
                due("counter(" + k + ", " + level + ")", x.counter(k, level), due[k][level - 1]);
            }
        }
        for (int odd : ODD) {
            due("counter(" + odd + ", 1)", x.counter(odd, 1), -1);
            due("counter(0, " + odd + ")", x.counter(0, odd), -1);
        }
        due("counter(8, 1)", x.counter(8, 1), -1);
        due("counter(0, 0)", x.counter(0, 0), -1);
        due("counter(0, 4)", x.counter(0, 4), -1);
        for (int k = 0; k < 12; k++) {
            plain(x, 8, 9, 9, 0);
        }
        due("counter(19, 1)", x.counter(19, 1), 26);
    }

    private static void entry() {
        promise = "12 entry";
        ContentsFinder x = new ContentsFinder();
        int z = words(26, 26, 26, 26);
        due("entry", x.entry(3, 999, z, z), 0);
        for (int odd : ODD) {
            due("level " + odd, x.entry(odd, 1, 0, 0), -1);
            due("number " + odd, x.entry(1, odd, 0, 0), -1);
        }
        due("level 0", x.entry(0, 1, 0, 0), -1);
        due("level 4", x.entry(4, 1, 0, 0), -1);
        for (int bits = 0; bits < 32; bits += 8) {
            due("first word", x.entry(1, 1, 27 << bits, 0), -1);
            due("last word", x.entry(1, 1, 0, 255 << bits), -1);
        }
        due("count(2) after refusals", x.count(2), 1);
        for (int k = 1; k < 12; k++) {
            due("entry " + k, x.entry(1, 0, 0, 0), k);
        }
        due("entry 12", x.entry(1, 0, 0, 0), -1);
        due("count(2)", x.count(2), 12);
        due("cost", x.count(5), 144);
    }

    private static void clear() {
        promise = "13 clear";
        ContentsFinder x = new ContentsFinder();
        plain(x, 0, 9, 9, 1);
        x.entry(1, 0, words(1, 1, 0, 0), 0);
        x.entry(1, 0, 0, 0);
        due("cost", x.count(5), 12);
        due("clear()", x.clear(), 2);
        due("count(2)", x.count(2), 0);
        due("partner(0)", x.partner(0), -1);
        due("of(0, 6)", x.of(0, 6), -1);
        due("cost", x.count(5), 12);
        due("clear()", x.clear(), 0);
        due("entry", x.entry(1, 0, 0, 0), 0);
        due("count(1)", x.count(1), 1);
    }

    private static void partner() {
        promise = "14 partner";
        ContentsFinder x = numbered(0, 7, 0);
        x.price(4, 4);
        int[] looks = {18, 1, 13, 18};
        int[] numbers = {1, 0, 101, 2};
        int[] pages = {0, 1, 1, 2};
        for (int k = 0; k < 4; k++) {
            int blank = Math.min(looks[k], 9);
            x.line(pages[k], looks[k] - blank, blank, false, fourOf(k + 1), fourOf(k + 1), numbers[k]);
        }
        x.entry(2, 7, fourOf(3), fourOf(3));
        x.entry(1, 0, fourOf(4), fourOf(4));
        x.entry(1, 0, fourOf(1), fourOf(1));
        due("partner(0)", x.partner(0), 2);
        due("partner(1)", x.partner(1), 3);
        due("partner(2), out of order", x.partner(2), -1);
        due("of(0, 6)", x.of(0, 6), -1);
        due("of(1, 6)", x.of(1, 6), -1);
        due("of(2, 6)", x.of(2, 6), 0);
        due("of(3, 6)", x.of(3, 6), 1);
        due("cost, none being 0", x.count(5), 24);
        x.read(1, 8);
        due("cost, another number", x.count(5), 27);
        x.read(2, 9);
        due("cost, another number", x.count(5), 30);
        for (int odd : ODD) {
            due("partner(" + odd + ")", x.partner(odd), -1);
        }
        due("partner(3)", x.partner(3), -1);
        x.right(2, 0, 1);
        due("count(3), a head less", x.count(3), 2);
        due("partner(0), held against the new tree", x.partner(0), -1);
        x.drop();
        due("partner(1), its line dropped", x.partner(1), -1);
        due("partner(2), free now", x.partner(2), 0);
    }

    private static void partnerTies() {
        promise = "14 partner, ties";
        ContentsFinder x = bookOf(3);
        x.line(0, 9, 9, false, 0, 0, 1);
        x.line(1, 9, 9, false, 0, 0, 2);
        x.line(2, 9, 9, false, 0, 0, 3);
        x.entry(1, 0, 0, 0);
        due("the less line", x.partner(0), 0);
        x.entry(1, 0, 0, 0);
        due("the less line", x.partner(0), 0);
        due("the less line", x.partner(1), 1);
        for (int k = 0; k < 2; k++) {
            x.entry(1, 0, 0, 0);
        }
        due("the last is without", x.partner(3), -1);
        due("and those ahead have", x.partner(2), 2);
        x.price(7, 0);
        due("a partner that costs nothing is less than none", x.partner(0), 0);
        due("partner(1)", x.partner(1), 1);
        x.clear();
        x.entry(2, 0, 0, 0);
        due("none is cheaper", x.partner(0), -1);
        x.price(7, 2);
        due("a partner is less than none", x.partner(0), 0);
        due("cost", x.count(5), 8);
    }

    private static void shift() {
        promise = "15 shift";
        ContentsFinder x = numbered(0, 0, 7, 8, 9, 30, 31, 32, 0, 1);
        due("shift(0)", x.shift(0), 5);
        due("shift(4)", x.shift(4), 5);
        due("shift(5)", x.shift(5), 25);
        due("shift(9)", x.shift(9), 25);
        for (int odd : ODD) {
            noSuchPage(x, odd);
        }
        noSuchPage(x, 10);
        noSuchPage(new ContentsFinder(), 1);
        ContentsFinder y = numbered(0, 0, 0, 1, 2);
        due("a shift below 0", y.shift(0), -2);
        due("wrong", y.count(8), 0);
        ContentsFinder z = bookOf(60);
        z.read(59, 1);
        due("the least shift", z.shift(0), -58);
        z.read(0, 999);
        z.price(9, 50);
        due("the greatest shift", z.shift(0), 999);
        due("the least shift", z.shift(59), -58);
        due("the longest first span", z.span(59), 59);
        due("it has the pages between", z.span(58), 0);
    }

    private static void shiftTies() {
        promise = "15 shift, ties";
        ContentsFinder x = numbered(9, 5);
        x.price(9, 3);
        due("the least of equal ones", x.shift(0), 4);
        due("spans", x.count(7), 1);
        ContentsFinder y = numbered(9, 4, 11, 6);
        due("one span", y.count(7), 1);
        due("the least of equal ones", y.shift(0), 3);
        due("fewest spans of equal costs", numbered(1, 2, 3, 50, 60, 7).count(7), 1);
        ContentsFinder z = numbered(10, 20);
        z.price(8, 4);
        due("equal costs: the fewest spans", z.count(7), 1);
        due("cost", z.count(6), 8);
        z.price(8, 3);
        due("two spans", z.count(7), 2);
        z.price(8, 0);
        z.price(9, 0);
        due("all at no cost: one span", z.count(7), 1);
        due("wrong", z.count(8), 1);
    }

    private static void span() {
        promise = "16 span";
        ContentsFinder x = numbered(1, 2, 3, 0, 0, 40, 41, 42, 0, 90, 91, 92);
        int[] due = {0, 0, 0, 0, 0, 5, 5, 5, 5, 9, 9, 9};
        for (int page = 0; page < due.length; page++) {
            due("span(" + page + ")", x.span(page), due[page]);
        }
        due("spans", x.count(7), 3);
        due("cost", x.count(6), 18);
        for (int odd : ODD) {
            due("span(" + odd + ")", x.span(odd), -1);
        }
        due("span(12)", x.span(12), -1);
        x.price(8, 50);
        due("span(11) in one", x.span(11), 0);
        due("shift(11) in one", x.shift(11), 1);
    }

    private static void wrongNumbers() {
        promise = "17 wrong";
        ContentsFinder x = numbered(4, 5, 60, 0, 8, 9);
        int[] due = {0, 0, 1, 0, 0, 0};
        for (int page = 0; page < due.length; page++) {
            due("wrong(" + page + ")", x.wrong(page), due[page]);
        }
        due("wrongs", x.count(8), 1);
        for (int odd : ODD) {
            due("wrong(" + odd + ")", x.wrong(odd), -1);
        }
        due("wrong(6)", x.wrong(6), -1);
        x.read(2, 0);
        due("wrong(2) without", x.wrong(2), 0);
        x.read(2, 6);
        due("wrong(2) as due", x.wrong(2), 0);
    }
}
