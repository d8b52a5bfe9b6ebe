/** The bounds of term 4 and of the promises of SHIFTS: shift, span, wrong, and what count tells of them. */
public final class ShiftBoundsTest {
    private static final Sentences S = new Sentences();
    private static final long NONE = Asked.NONE;
    private static final long THROWN = Asked.THROWN;
    private static final int SPAN = 8;
    private static final int WRONG = 9;

    public static void main(String[] args) {
        withoutNumbers();
        onePage();
        notPageAndShift();
        leastAndGreatestShift();
        shiftOfFewestWrong();
        leastShiftOfEqualOnes();
        leastShiftBelowZero();
        pagesWithoutNumbersInSpans();
        spanOrWrong();
        fewestSpansOfEqualCost();
        longestFirstSpan();
        longestSecondSpan();
        longestFirstWithWrongOne();
        fewestSpansAheadOfLongest();
        priceOfNothing();
        everyPageASpan();
        greatestCost();
        fullBook();
        wrongOnesOfPages();
        numbersPutAnew();
        pricesPutAnew();
        firstAndLastPages();
        S.end();
    }

    private static void shifts(String call, Asked x, long... want) {
        S.dueRow(call + ": shift", x::shift, want);
    }

    private static void spans(String call, Asked x, long... want) {
        S.dueRow(call + ": span", x::span, want);
    }

    private static void wrongs(String call, Asked x, long... want) {
        S.dueRow(call + ": wrong", x::wrong, want);
    }

    private static void counts(String call, Asked x, long cost, long spans, long wrong) {
        S.due(call + ": cost", x.count(6), cost);
        S.due(call + ": spans", x.count(7), spans);
        S.due(call + ": wrong ones", x.count(8), wrong);
    }

    private static void withoutNumbers() {
        S.by("Term 4", "without READ numbers 0");
        for (int n : new int[] {1, 2, 59, 60}) {
            Asked x = Asked.withPages(n);
            counts(n + " pages", x, 6, 1, 0);
            for (int page : new int[] {0, n - 1}) {
                S.due("shift", x.shift(page), 0);
                S.due("span", x.span(page), 0);
                S.due("wrong", x.wrong(page), 0);
            }
        }
    }

    private static void onePage() {
        S.by("Term 4", "all PAGES in SPANS, one behind another (one PAGE)");
        Asked x = new Asked();
        x.read(0, 1);
        counts("number 1", x, 6, 1, 0);
        shifts("number 1", x, 1, THROWN);
        spans("number 1", x, 0, NONE);
        wrongs("number 1", x, 0, NONE);
        x.price(SPAN, 0);
        counts("SPAN 0", x, 0, 1, 0);
        x.price(SPAN, 50);
        counts("SPAN 50", x, 50, 1, 0);
    }

    private static void notPageAndShift() {
        S.by("Term 4", "a READ number is WRONG, if it is not PAGE and SHIFT");
        int[] numbers = {12, 13, 14, 15, 16};
        long[] wrong = {1, 1, 0, 1, 1};
        for (int k = 0; k < numbers.length; k++) {
            Asked x = Asked.withNumbers(11, 12, 13, numbers[k], 15, 16);
            wrongs("number " + numbers[k], x, 0, 0, 0, wrong[k], 0, 0);
            shifts("number " + numbers[k], x, 11, 11, 11, 11, 11, 11);
            counts("number " + numbers[k], x, 6 + 4 * wrong[k], 1, wrong[k]);
        }
    }

    private static void leastAndGreatestShift() {
        S.by("Promise 15", "The SHIFT of the SPAN that has a PAGE. (the least and the greatest)");
        Asked x = Asked.withPages(60);
        x.read(59, 1);
        S.due("1 on page 59", x.shift(0), -58);
        S.due("1 on page 59", x.shift(59), -58);
        counts("1 on page 59", x, 6, 1, 0);
        x.read(59, 999);
        S.due("999 on page 59", x.shift(59), 940);
        x.read(59, 0);
        x.read(0, 999);
        S.due("999 on page 0", x.shift(59), 999);
        x.read(0, 1);
        S.due("1 on page 0", x.shift(59), 1);
        x.read(0, 999);
        x.read(59, 1);
        x.price(WRONG, 7);
        counts("both", x, 12, 2, 0);
        S.due("999 on page 0", x.shift(58), 999);
        S.due("1 on page 59", x.shift(59), -58);
        S.by("Term 4", "The SHIFT of a SPAN .. (0 where READ numbers are their PAGES)");
        Asked y = Asked.withNumbers(0, 1, 2, 3);
        shifts("numbers as pages", y, 0, 0, 0, 0);
        counts("numbers as pages", y, 6, 1, 0);
    }

    private static void shiftOfFewestWrong() {
        S.by("Term 4", "The SHIFT of a SPAN is that by which the fewest of it are WRONG");
        Asked x = Asked.withNumbers(20, 3, 22, 5, 6);
        x.price(SPAN, 50);
        shifts("two of 20, three of 2", x, 2, 2, 2, 2, 2);
        wrongs("two of 20, three of 2", x, 1, 0, 1, 0, 0);
        x.read(4, 24);
        shifts("three of 20, two of 2", x, 20, 20, 20, 20, 20);
        wrongs("three of 20, two of 2", x, 0, 1, 0, 1, 0);
        counts("three of 20, two of 2", x, 58, 1, 2);
    }

    private static void leastShiftOfEqualOnes() {
        S.by("Term 4", "(of equal ones the least");
        Asked less = Asked.withNumbers(3, 21);
        shifts("3 and 20", less, 3, 3);
        wrongs("3 and 20", less, 0, 1);
        Asked more = Asked.withNumbers(20, 4);
        shifts("20 and 3", more, 3, 3);
        wrongs("20 and 3", more, 1, 0);
        Asked x = Asked.withNumbers(20, 4, 5, 23);
        x.price(SPAN, 50);
        shifts("20, 3, 3, 20", x, 3, 3, 3, 3);
        Asked y = Asked.withNumbers(3, 21, 22, 6);
        y.price(SPAN, 50);
        shifts("3, 20, 20, 3", y, 3, 3, 3, 3);
        Asked z = Asked.withNumbers(3, 21, 22, 0);
        z.price(SPAN, 50);
        shifts("more often ahead of less", z, 20, 20, 20, 20);
        Asked w = Asked.withNumbers(7, 7, 7, 7);
        w.price(SPAN, 50);
        shifts("all unlike", w, 4, 4, 4, 4);
        wrongs("all unlike", w, 1, 1, 1, 0);
    }

    private static void leastShiftBelowZero() {
        S.by("Term 4", "(of equal ones the least (below 0)");
        Asked x = Asked.withNumbers(0, 0, 0, 1, 4);
        shifts("-2 and 0", x, -2, -2, -2, -2, -2);
        wrongs("-2 and 0", x, 0, 0, 0, 0, 1);
        Asked y = Asked.withNumbers(0, 0, 0, 2, 1);
        shifts("-1 and -3", y, -3, -3, -3, -3, -3);
        Asked z = Asked.withNumbers(1, 0, 2);
        shifts("1 and 0", z, 0, 0, 0);
        wrongs("1 and 0", z, 1, 0, 0);
    }

    private static void pagesWithoutNumbersInSpans() {
        S.by("Term 4", "all PAGES in SPANS, one behind another, each with a SHIFT");
        Asked x = Asked.withNumbers(0, 0, 5, 6, 7, 0, 0, 50, 51, 52, 0, 0);
        shifts("two spans", x, 3, 3, 3, 3, 3, 3, 3, 43, 43, 43, 43, 43, THROWN);
        spans("two spans", x, 0, 0, 0, 0, 0, 0, 0, 7, 7, 7, 7, 7, NONE);
        wrongs("two spans", x, 0, 0, 0, 0, 0, 0, 0, 0, 0, 0, 0, 0, NONE);
        counts("two spans", x, 12, 2, 0);
    }

    private static void spanOrWrong() {
        S.by("Term 4", "COST: SPAN for each, WRONG for each WRONG one. .. The least COST");
        Asked one = Asked.withNumbers(1, 2, 3, 40);
        counts("one of 40", one, 10, 1, 1);
        spans("one of 40", one, 0, 0, 0, 0);
        Asked two = Asked.withNumbers(1, 2, 3, 40, 41);
        counts("two of 40", two, 12, 2, 0);
        spans("two of 40", two, 0, 0, 0, 3, 3);
        Asked between = Asked.withNumbers(1, 2, 40, 41, 5, 6);
        // a span of its own would need another behind it: 18 for three, 14 for one with two wrong
        counts("two between", between, 14, 1, 2);
        wrongs("two between", between, 0, 0, 1, 1, 0, 0);
        Asked four = Asked.withNumbers(1, 2, 40, 41, 42, 43, 7, 8);
        counts("four between", four, 18, 3, 0);
        spans("four between", four, 0, 0, 2, 2, 2, 2, 6, 6);
        shifts("four between", four, 1, 1, 38, 38, 38, 38, 1, 1);
    }

    private static void fewestSpansOfEqualCost() {
        S.by("Term 4", "of equal ones the fewest SPANS");
        Asked x = Asked.withNumbers(1, 2, 3, 40, 41);
        x.price(SPAN, 8);
        counts("SPAN as two WRONG", x, 16, 1, 2);
        spans("SPAN as two WRONG", x, 0, 0, 0, 0, 0);
        wrongs("SPAN as two WRONG", x, 0, 0, 0, 1, 1);
        x.price(SPAN, 7);
        counts("SPAN one less", x, 14, 2, 0);
        x.price(SPAN, 9);
        counts("SPAN one more", x, 17, 1, 2);
    }

    private static void longestFirstSpan() {
        S.by("Term 4", "then the longest first SPAN");
        Asked x = Asked.withNumbers(1, 2, 0, 0, 0, 40, 41);
        spans("none between", x, 0, 0, 0, 0, 0, 5, 5);
        Asked y = Asked.withNumbers(1, 2, 40, 41, 0, 0);
        spans("none behind", y, 0, 0, 2, 2, 2, 2);
        Asked z = Asked.withNumbers(0, 0, 1, 2, 40, 41);
        spans("none ahead", z, 0, 0, 0, 0, 4, 4);
        Asked far = Asked.withPages(60);
        far.read(0, 1);
        far.read(1, 2);
        far.read(58, 7);
        far.read(59, 8);
        counts("far apart", far, 12, 2, 0);
        S.due("span(57)", far.span(57), 0);
        S.due("span(58)", far.span(58), 58);
        S.due("span(59)", far.span(59), 58);
    }

    private static void longestSecondSpan() {
        S.by("Term 4", "then the longest first SPAN, and so on");
        Asked x = Asked.withNumbers(1, 2, 0, 40, 41, 0, 0, 90, 91, 0, 200, 201);
        counts("four", x, 24, 4, 0);
        spans("four", x, 0, 0, 0, 3, 3, 3, 3, 7, 7, 7, 10, 10);
        shifts("four", x, 1, 1, 1, 37, 37, 37, 37, 83, 83, 83, 190, 190);
    }

    private static void longestFirstWithWrongOne() {
        S.by("Term 4", "then the longest first SPAN (with a WRONG one between)");
        Asked x = Asked.withNumbers(1, 2, 3, 500, 40, 41, 42);
        counts("one between", x, 16, 2, 1);
        spans("one between", x, 0, 0, 0, 0, 4, 4, 4);
        wrongs("one between", x, 0, 0, 0, 1, 0, 0, 0);
        Asked y = Asked.withNumbers(1, 2, 3, 500, 0, 40, 41, 42);
        spans("one and none between", y, 0, 0, 0, 0, 0, 5, 5, 5);
    }

    private static void fewestSpansAheadOfLongest() {
        S.by("Term 4", "of equal ones the fewest SPANS, then the longest first SPAN (in that order)");
        Asked x = Asked.withNumbers(10, 20, 30);
        x.price(SPAN, 4);
        counts("all as dear", x, 12, 1, 2);
        x.price(SPAN, 3);
        counts("a span less dear", x, 9, 3, 0);
        spans("a span less dear", x, 0, 1, 2);
        Asked y = Asked.withNumbers(10, 11, 30, 31, 50);
        y.price(SPAN, 4);
        // two spans and one wrong, or three spans: both cost 12; of two spans the longest first
        counts("two or three", y, 12, 2, 1);
        spans("two or three", y, 0, 0, 2, 2, 2);
    }

    private static void priceOfNothing() {
        S.by("Term 1", "PRICES (each 0 .. 50): SPAN 0, WRONG 0");
        Asked x = Asked.withNumbers(1, 2, 40, 0, 42, 90);
        x.price(SPAN, 0);
        counts("SPAN 0", x, 0, 3, 0);
        spans("SPAN 0", x, 0, 0, 2, 2, 2, 5);
        x.price(WRONG, 0);
        counts("both 0", x, 0, 1, 3);
        // the shifts of the numbers are 1, 1, 38, 38, 85: 1 and 38 as often, the least counts
        shifts("both 0", x, 1, 1, 1, 1, 1, 1);
        x.price(SPAN, 6);
        counts("WRONG 0", x, 6, 1, 3);
        wrongs("WRONG 0", x, 0, 0, 1, 0, 1, 1);
    }

    private static void everyPageASpan() {
        S.by("Promise 9", "7: SPANS (as many as PAGES)");
        Asked x = Asked.withPages(60);
        for (int page = 0; page < 60; page++) {
            x.read(page, 3 * page + 1);
        }
        x.price(SPAN, 0);
        counts("SPAN 0", x, 0, 60, 0);
        x.price(WRONG, 50);
        x.price(SPAN, 49);
        counts("SPAN 49, WRONG 50", x, 60 * 49, 60, 0);
        for (int page = 0; page < 60; page++) {
            S.due("span(" + page + ")", x.span(page), page);
            S.due("shift(" + page + ")", x.shift(page), 2 * page + 1);
            S.due("wrong(" + page + ")", x.wrong(page), 0);
        }
    }

    private static void greatestCost() {
        S.by("Promise 9", "6: COST of SHIFTS, .. 8: READ numbers that are WRONG (the greatest)");
        Asked x = Asked.withPages(60);
        for (int page = 0; page < 60; page++) {
            x.read(page, 999 - 7 * page);
        }
        x.price(SPAN, 50);
        x.price(WRONG, 50);
        counts("both 50", x, 3000, 1, 59);
        S.due("the least shift", x.shift(0), 999 - 8 * 59);
        S.due("the one that is not wrong", x.wrong(59), 0);
        S.due("wrong(0)", x.wrong(0), 1);
        x.price(WRONG, 49);
        counts("WRONG 49", x, 50 + 59 * 49, 1, 59);
    }

    private static void fullBook() {
        S.by("Term 1", "PAGES 0 .. n - 1 (n .. 60): SHIFTS of all of them");
        Asked all = Asked.withPages(60);
        for (int page = 0; page < 60; page++) {
            all.read(page, page + 940);
        }
        counts("all in one", all, 6, 1, 0);
        S.due("shift(59)", all.shift(59), 940);
        S.due("span(59)", all.span(59), 0);
        Asked x = Asked.withPages(60);
        for (int page = 0; page < 60; page++) {
            x.read(page, page + 1 + page / 20 * 5);
        }
        counts("three of 20", x, 18, 3, 0);
        for (int page : new int[] {0, 19, 20, 39, 40, 59}) {
            S.due("span(" + page + ")", x.span(page), page / 20 * 20);
            S.due("shift(" + page + ")", x.shift(page), 1 + page / 20 * 5);
        }
        x.read(0, 0);
        x.read(59, 999);
        counts("the last misread", x, 22, 3, 1);
        S.due("wrong(59)", x.wrong(59), 1);
        S.due("wrong(0)", x.wrong(0), 0);
    }

    private static void wrongOnesOfPages() {
        S.by("Promise 17", "Whether the READ number of a PAGE is WRONG (1, 0; 0 without).");
        Asked x = Asked.withNumbers(4, 5, 60, 0, 8, 9);
        wrongs("one misread, one without", x, 0, 0, 1, 0, 0, 0, NONE);
        x.read(2, 0);
        wrongs("none read there", x, 0, 0, 0, 0, 0, 0, NONE);
        x.read(3, 6);
        wrongs("one less than due", x, 0, 0, 0, 1, 0, 0, NONE);
        x.read(3, 7);
        wrongs("as due", x, 0, 0, 0, 0, 0, 0, NONE);
        S.due("wrong ones", x.count(8), 0);
    }

    private static void numbersPutAnew() {
        S.by("Promise 3", "The READ number of a PAGE (one read anew)");
        Asked x = Asked.withNumbers(1, 2);
        shifts("at first", x, 1, 1);
        x.read(0, 5);
        x.read(1, 6);
        shifts("both anew", x, 5, 5);
        counts("both anew", x, 6, 1, 0);
        x.read(0, 0);
        x.read(1, 0);
        shifts("none", x, 0, 0);
        counts("none", x, 6, 1, 0);
    }

    private static void pricesPutAnew() {
        S.by("Promise 7", "A PRICE becomes v (SPAN and WRONG, SHIFTS being known)");
        Asked x = Asked.withNumbers(1, 2, 3, 40, 41);
        counts("at first", x, 12, 2, 0);
        x.price(WRONG, 3);
        counts("WRONG as half a SPAN", x, 12, 1, 2);
        x.price(WRONG, 2);
        counts("WRONG less", x, 10, 1, 2);
        x.price(SPAN, 3);
        counts("SPAN less", x, 6, 2, 0);
        S.due("refused", x.price(SPAN, 51), NONE);
        counts("refused", x, 6, 2, 0);
    }

    private static void firstAndLastPages() {
        S.by("Promise 16", "The first PAGE of the SPAN that has a PAGE; NONE: no such PAGE.");
        Asked x = Asked.withNumbers(1, 2, 3, 40, 41);
        spans("two", x, 0, 0, 0, 3, 3, NONE, NONE);
        S.due("span(-1)", x.span(-1), NONE);
        S.by("Promise 15", "NoSuchElementException: no such PAGE.");
        shifts("two", x, 1, 1, 1, 37, 37, THROWN, THROWN);
        S.due("shift(-1)", x.shift(-1), THROWN);
        S.by("Promise 17", "NONE: no such PAGE.");
        wrongs("two", x, 0, 0, 0, 0, 0, NONE, NONE);
        S.due("wrong(-1)", x.wrong(-1), NONE);
        counts("two", x, 12, 2, 0);
        x.book(3);
        counts("of three pages", x, 6, 1, 0);
        spans("of three pages", x, 0, 0, 0, NONE, NONE);
        shifts("of three pages", x, 0, 0, 0, THROWN, THROWN);
        wrongs("of three pages", x, 0, 0, 0, NONE, NONE);
    }
}
