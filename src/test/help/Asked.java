import java.util.NoSuchElementException;

/** A finder whose answers are all numbers: a boolean is 1 or 0, a NoSuchElementException is THROWN. */
final class Asked {
    static final long THROWN = Long.MIN_VALUE;
    static final long NONE = -1;
    static final long YES = 1;
    static final long NO = 0;

    // the document promises nothing behind the 512th call, so no test may go beyond it
    private static final int MOST_CALLS = 512;

    private final ContentsFinder finder = new ContentsFinder();
    private int calls = 0;

    static Asked withPages(int n) {
        Asked x = new Asked();
        if (x.book(n) != YES) {
            throw new AssertionError("book(" + n + ") was refused");
        }
        return x;
    }

    static Asked withNumbers(int... numbers) {
        Asked x = withPages(numbers.length);
        for (int page = 0; page < numbers.length; page++) {
            if (x.read(page, numbers[page]) != YES) {
                throw new AssertionError("read(" + page + ", " + numbers[page] + ") was refused");
            }
        }
        return x;
    }

    private ContentsFinder next() {
        calls++;
        if (calls > MOST_CALLS) {
            throw new AssertionError("more calls than the document promises answers for");
        }
        return finder;
    }

    long book(int n) {
        return next().book(n) ? YES : NO;
    }

    long read(int page, int number) {
        return next().read(page, number) ? YES : NO;
    }

    long line(int page, int size, int blank, boolean centred, int a, int b, int numbers) {
        return next().line(page, size, blank, centred, a, b, numbers);
    }

    /** A line of a look from 0 to 18, with words that no other line has, so that it is no running one. */
    long own(int page, int look, int numbers) {
        int size = Math.min(look, 9);
        int k = next().count(1);
        return line(page, size, look - size, false, 25 << 24 | k + 1 << 16, 0, numbers);
    }

    long right(int line, int size, int numbers) {
        return next().right(line, size, numbers) ? YES : NO;
    }

    long drop() {
        return next().drop();
    }

    long price(int what, int v) {
        return next().price(what, v);
    }

    long want(int level, int v) {
        return next().want(level, v);
    }

    long count(int what) {
        return next().count(what);
    }

    long of(int line, int what) {
        try {
            return next().of(line, what);
        } catch (NoSuchElementException e) {
            return THROWN;
        }
    }

    long counter(int line, int level) {
        return next().counter(line, level);
    }

    long entry(int level, int number, int a, int b) {
        return next().entry(level, number, a, b);
    }

    long clear() {
        return next().clear();
    }

    long partner(int entry) {
        return next().partner(entry);
    }

    long shift(int page) {
        try {
            return next().shift(page);
        } catch (NoSuchElementException e) {
            return THROWN;
        }
    }

    long span(int page) {
        return next().span(page);
    }

    long wrong(int page) {
        return next().wrong(page);
    }
}
