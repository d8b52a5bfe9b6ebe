/** The bounds of term 2 and of the promises that tell THE TREE: count, of and counter. */
public final class TreeBoundsTest {
    private static final Sentences S = new Sentences();
    private static final long NONE = Asked.NONE;
    private static final long THROWN = Asked.THROWN;
    private static final int TEXT = 0;
    private static final int HEAD = 1;
    private static final int GAP = 2;
    private static final int PLAIN = 3;

    public static void main(String[] args) {
        noLines();
        countersAtFirst();
        counterAbove();
        asManyNumbersAsLevel();
        numbersAheadOfTheLast();
        lastAboveCounter();
        lastAboveCounterOfDeeperLevels();
        countersBehindHead();
        counterWithoutNumbers();
        countersBeyondTwelve();
        secondCounterBeyondTwelve();
        deeperCountersAreZero();
        textLeavesCounters();
        runningLines();
        costOfText();
        costOfLookAboveAndBelowWant();
        costOfPlain();
        costOfGap();
        greatestCost();
        leastCostHoldsAheadOfLook();
        textOrHead();
        lessLevelOfEqualOnes();
        firstUnlikeLine();
        partsAndTheirPages();
        partsOfOnePage();
        headsAbove();
        fullBook();
        ofItsEdges();
        counterItsEdges();
        S.end();
    }

    private static void levels(String call, Asked x, long... want) {
        S.dueRow(call + ": level", k -> x.of(k, 3), want);
    }

    /** A book in which each line that may be a head is one: text is dear. */
    private static Asked dearText() {
        Asked x = Asked.withPages(60);
        x.price(TEXT, 50);
        return x;
    }

    private static void noLines() {
        S.by("Promise 9", "3: HEADS of THE TREE, 4: COST of THE TREE (without LINES)");
        Asked x = dearText();
        S.due("heads", x.count(3), 0);
        S.due("cost", x.count(4), 0);
        x.own(0, 18, 1);
        S.due("heads of one", x.count(3), 1);
        x.drop();
        S.due("heads", x.count(3), 0);
        S.due("cost", x.count(4), 0);
    }

    private static void countersAtFirst() {
        S.by("Term 2", "COUNTERS 1, 2, 3 are 0 at first.");
        Asked x = Asked.withPages(2);
        x.own(0, 1, 0);
        S.dueRow("counter behind text", k -> x.counter(0, k + 1), 0, 0, 0);
        x.own(1, 18, 1);
        S.dueRow("counter behind a head", k -> x.counter(1, k + 1), 1, 0, 0);
        S.due("number 1 is no GAP at first", x.count(4), 1);
        S.dueRow("counter behind text, still", k -> x.counter(0, k + 1), 0, 0, 0);
    }

    private static void counterAbove() {
        S.by("Term 2", "RIGHT only if COUNTER L - 1 is above 0 (of L 2, 3)");
        Asked x = dearText();
        x.own(0, 13, 0);
        levels("no 2 at first", x, 1);
        S.due("cost", x.count(4), 2 * 5 + 1);
        x.drop();
        x.own(0, 8, 0);
        levels("no 3 at first", x, 1);
        S.due("cost", x.count(4), 2 * 10 + 1);
        x.drop();
        x.own(0, 13, 101);
        levels("no numbered 2 at first", x, 0);
        S.due("cost", x.count(4), 650);
        x.drop();
        x.own(0, 18, 1);
        x.own(0, 8, 0);
        levels("no 3 behind a 1", x, 1, 2);
        S.due("cost", x.count(4), 2 * 5 + 1);
        x.drop();
        x.own(0, 8, 10101);
        levels("no numbered 3 behind a 1", x, 1, 0);
        x.drop();
        x.own(0, 13, 0);
        x.own(0, 8, 0);
        levels("a 2 behind a 1, a 3 behind a 2", x, 1, 2, 3);
        S.due("cost", x.count(4), 2);
        x.own(0, 18, 2);
        x.own(0, 8, 0);
        levels("no 3 behind the next 1", x, 1, 2, 3, 1, 2);
    }

    private static void asManyNumbersAsLevel() {
        S.by("Term 2", "if it has NUMBERS: they are L");
        Asked x = dearText();
        x.own(0, 18, 1);
        x.own(0, 18, 101);
        levels("two are a 2, whatever the look", x, 1, 2);
        x.own(0, 18, 10101);
        levels("three are a 3", x, 1, 2, 3);
        x.own(0, 8, 2);
        levels("one is a 1", x, 1, 2, 3, 1);
        S.due("cost", x.count(4), 2 * 5 + 2 * 10 + 2 * 10);
        x.own(0, 13, 3);
        levels("one is a 1", x, 1, 2, 3, 1, 1);
    }

    /** A line of these NUMBERS behind heads 2 and 2.3: whether it is a head. */
    private static long levelBehindTwoThree(int numbers) {
        Asked x = dearText();
        x.own(0, 18, 2);
        x.own(0, 13, 203);
        x.own(0, 8, numbers);
        levels("heads 2, 2.3", x, 1, 2);
        return x.of(2, 3);
    }

    private static void numbersAheadOfTheLast() {
        S.by("Term 2", "those ahead of the last are COUNTERS 1 .. L - 1");
        S.due("1.4", levelBehindTwoThree(104), 0);
        S.due("2.4", levelBehindTwoThree(204), 2);
        S.due("3.4", levelBehindTwoThree(304), 0);
        S.due("12.4", levelBehindTwoThree(1204), 0);
        S.due("2.3.1", levelBehindTwoThree(20301), 3);
        S.due("2.2.1", levelBehindTwoThree(20201), 0);
        S.due("2.4.1", levelBehindTwoThree(20401), 0);
        S.due("1.3.1", levelBehindTwoThree(10301), 0);
        S.due("3.3.1", levelBehindTwoThree(30301), 0);
        S.due("3.2.1", levelBehindTwoThree(30201), 0);
    }

    private static void lastAboveCounter() {
        S.by("Term 2", "the last is above COUNTER L");
        int[] numbers = {4, 5, 6, 7, 12};
        long[] level = {0, 0, 1, 1, 1};
        long[] cost = {5 + 850, 5 + 850, 5 + 2, 5 + 2 + 5, 5 + 2 + 5};
        for (int k = 0; k < numbers.length; k++) {
            Asked x = dearText();
            x.own(0, 18, 5);
            x.own(0, 17, numbers[k]);
            levels(numbers[k] + " behind 5", x, 1, level[k]);
            S.due("cost of " + numbers[k] + " behind 5", x.count(4), cost[k]);
        }
        Asked x = dearText();
        x.own(0, 18, 12);
        x.own(0, 17, 12);
        levels("12 behind 12", x, 1, 0);
    }

    private static void lastAboveCounterOfDeeperLevels() {
        S.by("Term 2", "the last is above COUNTER L (of L 2, 3)");
        long[] level2 = {0, 0, 2, 2};
        long[] level3 = {0, 0, 3, 3};
        for (int k = 0; k < 4; k++) {
            Asked x = dearText();
            x.own(0, 18, 1);
            x.own(0, 13, 102);
            x.own(0, 12, 101 + k);
            levels("1." + (1 + k) + " behind 1.2", x, 1, 2, level2[k]);
            Asked y = dearText();
            y.own(0, 18, 1);
            y.own(0, 13, 101);
            y.own(0, 8, 10102);
            y.own(0, 7, 10101 + k);
            levels("1.1." + (1 + k) + " behind 1.1.2", y, 1, 2, 3, level3[k]);
        }
    }

    private static void countersBehindHead() {
        S.by("Term 2", "Behind it COUNTER L is that last one");
        Asked x = dearText();
        x.own(0, 18, 3);
        x.own(0, 13, 312);
        x.own(0, 8, 31211);
        x.own(0, 8, 31212);
        x.own(0, 18, 12);
        S.dueRow("counter 1", k -> x.counter(k, 1), 3, 3, 3, 3, 12);
        S.dueRow("counter 2", k -> x.counter(k, 2), 0, 12, 12, 12, 0);
        S.dueRow("counter 3", k -> x.counter(k, 3), 0, 0, 11, 12, 0);
    }

    private static void counterWithoutNumbers() {
        S.by("Term 2", "(without NUMBERS one more)");
        Asked x = dearText();
        x.own(0, 18, 0);
        x.own(0, 18, 5);
        x.own(0, 18, 0);
        x.own(0, 13, 0);
        x.own(0, 13, 605);
        x.own(0, 13, 0);
        x.own(0, 8, 0);
        x.own(0, 8, 60602);
        x.own(0, 8, 0);
        levels("all are heads", x, 1, 1, 1, 2, 2, 2, 3, 3, 3);
        S.dueRow("counter 1", k -> x.counter(k, 1), 1, 5, 6, 6, 6, 6, 6, 6, 6);
        S.dueRow("counter 2", k -> x.counter(k, 2), 0, 0, 0, 1, 5, 6, 6, 6, 6);
        S.dueRow("counter 3", k -> x.counter(k, 3), 0, 0, 0, 0, 0, 0, 1, 2, 3);
    }

    /** So many heads of level 1 without NUMBERS, no other level being near, and a line behind them. */
    private static Asked behindPlainHeads(int heads, int look, int numbers) {
        Asked x = Asked.withPages(60);
        x.want(2, 0);
        x.want(3, 0);
        for (int k = 0; k < heads; k++) {
            x.own(k, 18, 0);
        }
        x.own(heads, look, numbers);
        return x;
    }

    private static void countersBeyondTwelve() {
        S.by("Term 2", "COUNTER L .. without NUMBERS one more (beyond what a PART may be)");
        Asked eleven = behindPlainHeads(11, 17, 12);
        S.due("12 behind eleven", eleven.of(11, 3), 1);
        S.due("without a GAP", eleven.count(4), 11 + 2);
        Asked twelve = behindPlainHeads(12, 17, 12);
        S.due("12 behind twelve", twelve.of(12, 3), 0);
        S.due("cost", twelve.count(4), 12 + 17);
        Asked nineteen = behindPlainHeads(19, 17, 12);
        S.due("12 behind nineteen", nineteen.of(19, 3), 0);
        S.due("counter behind nineteen", nineteen.counter(19, 1), 19);
        Asked twenty = behindPlainHeads(19, 18, 0);
        S.dueRow("counter of twenty", k -> twenty.counter(k, 1),
                1, 2, 3, 4, 5, 6, 7, 8, 9, 10, 11, 12, 13, 14, 15, 16, 17, 18, 19, 20);
        Asked x = dearText();
        x.own(0, 18, 12);
        x.own(0, 18, 0);
        x.own(0, 18, 0);
        S.dueRow("counter behind 12", k -> x.counter(k, 1), 12, 13, 14);
    }

    private static void secondCounterBeyondTwelve() {
        S.by("Term 2", "those ahead of the last are COUNTERS 1 .. L - 1 (beyond what a PART may be)");
        Asked twelve = behindPlainHeads(12, 0, 1201);
        twelve.want(2, 1);
        twelve.price(HEAD, 1);
        twelve.right(12, 1, 1201);
        // a text of LOOK 1 costs 1, as a head it costs nothing
        S.due("12.1 behind twelve", twelve.of(12, 3), 2);
        S.due("counter 1", twelve.counter(12, 1), 12);
        Asked thirteen = behindPlainHeads(13, 0, 1201);
        thirteen.want(2, 1);
        thirteen.price(HEAD, 1);
        thirteen.right(13, 1, 1201);
        S.due("12.1 behind thirteen", thirteen.of(13, 3), 0);
        S.due("counter 1", thirteen.counter(13, 1), 13);
    }

    private static void deeperCountersAreZero() {
        S.by("Term 2", "those of deeper LEVELS 0");
        Asked x = dearText();
        int[] looks = {18, 13, 8, 13, 8, 18, 13, 8};
        int[] numbers = {1, 101, 10101, 102, 10201, 2, 201, 20101};
        for (int k = 0; k < looks.length; k++) {
            x.own(k, looks[k], numbers[k]);
        }
        levels("all are heads", x, 1, 2, 3, 2, 3, 1, 2, 3);
        S.due("none has a GAP", x.count(4), 0);
        S.dueRow("counter 1", k -> x.counter(k, 1), 1, 1, 1, 1, 1, 2, 2, 2);
        S.dueRow("counter 2", k -> x.counter(k, 2), 0, 1, 1, 2, 2, 0, 1, 1);
        S.dueRow("counter 3", k -> x.counter(k, 3), 0, 0, 1, 0, 1, 0, 0, 1);
    }

    private static void textLeavesCounters() {
        S.by("Promise 11", "The COUNTER of a LEVEL (1 .. 3) behind a LINE (running text)");
        Asked x = Asked.withPages(9);
        x.own(0, 18, 1);
        x.own(0, 13, 101);
        x.own(0, 8, 10101);
        x.own(0, 0, 0);
        x.own(0, 0, 5);
        S.due("a text with NUMBERS is none of the heads", x.of(4, 3), 0);
        for (int line = 3; line <= 4; line++) {
            int k = line;
            S.dueRow("counter behind text", level -> x.counter(k, level + 1), 1, 1, 1);
        }
    }

    private static void runningLines() {
        S.by("Term 2", "RUNNING ones have 0 .. COST of a LINE: 0: 0 if it is RUNNING");
        Asked x = dearText();
        for (int k = 0; k < 3; k++) {
            x.line(k, 9, 9, false, 7, 7, k + 1);
        }
        levels("running", x, 0, 0, 0);
        S.due("heads", x.count(3), 0);
        S.due("cost", x.count(4), 0);
        S.dueRow("counter", k -> x.counter(k, 1), 0, 0, 0);
        S.dueRow("part", k -> x.of(k, 5), NONE, NONE, NONE);
        x.want(0, 4);
        levels("one page too few", x, 1, 1, 1);
        S.dueRow("counter", k -> x.counter(k, 1), 1, 2, 3);
        S.due("cost", x.count(4), 0);
        S.by("Term 2", "RUNNING ones have 0; others 0 (running text), or 1, 2, 3 (a HEAD)");
        Asked y = dearText();
        y.line(0, 9, 9, false, 7, 7, 1);
        y.own(0, 13, 101);
        y.line(1, 9, 9, false, 7, 7, 0);
        levels("a head lets another be one", y, 1, 2, 1);
        S.due("cost", y.count(4), 1);
        y.want(0, 2);
        levels("a running one does not, though it would cost less", y, 0, 0, 0);
        S.due("cost", y.count(4), 13 * 50);
        y.right(1, 9, 0);
        levels("a line between running ones", y, 0, 1, 0);
        S.dueRow("counter", k -> y.counter(k, 1), 0, 1, 1);
        S.due("head above", y.of(1, 7), NONE);
        S.due("last page, no running one ends it", y.of(1, 5), 59);
    }

    private static void costOfText() {
        S.by("Term 2", "COST of a LINE: 0: .. LOOK times TEXT");
        Asked x = Asked.withPages(1);
        x.price(HEAD, 50);
        x.want(1, 0);
        x.price(PLAIN, 50);
        x.line(0, 0, 0, false, 0, 0, 0);
        S.due("LOOK 0", x.count(4), 0);
        x.price(TEXT, 50);
        S.due("LOOK 0, TEXT 50", x.count(4), 0);
        x.drop();
        x.line(0, 9, 9, true, 0, 0, 0);
        S.due("LOOK 21, TEXT 50", x.count(4), 1050);
        S.due("heads", x.count(3), 0);
        x.price(TEXT, 0);
        S.due("LOOK 21, TEXT 0", x.count(4), 0);
        x.price(TEXT, 1);
        S.due("LOOK 21, TEXT 1", x.count(4), 21);
    }

    private static void costOfLookAboveAndBelowWant() {
        S.by("Term 2", "HEAD times the size of LOOK less WANT");
        Asked x = dearText();
        x.own(0, 10, 1);
        int[] wants = {0, 9, 10, 11, 21};
        int[] sizes = {10, 1, 0, 1, 11};
        for (int k = 0; k < wants.length; k++) {
            x.want(1, wants[k]);
            S.due("LOOK 10, WANT " + wants[k], x.count(4), 2 * sizes[k]);
        }
        x.price(HEAD, 0);
        S.due("HEAD 0", x.count(4), 0);
        x.price(HEAD, 45);
        S.due("HEAD 45", x.count(4), 45 * 11);
        S.due("still a head", x.of(0, 3), 1);
        x.price(HEAD, 46);
        S.due("HEAD 46: text is less", x.count(4), 500);
        S.due("no head", x.of(0, 3), 0);
    }

    private static void costOfPlain() {
        S.by("Term 2", "PLAIN more, if it has no NUMBERS");
        Asked x = dearText();
        x.own(0, 18, 0);
        S.due("without", x.count(4), 1);
        x.price(PLAIN, 0);
        S.due("PLAIN 0", x.count(4), 0);
        x.price(PLAIN, 50);
        S.due("PLAIN 50", x.count(4), 50);
        x.price(GAP, 50);
        S.due("GAP 50 is not its price", x.count(4), 50);
        x.right(0, 9, 1);
        S.due("with one", x.count(4), 0);
        x.own(0, 13, 101);
        x.own(0, 8, 10101);
        S.due("with two and three", x.count(4), 0);
    }

    private static void costOfGap() {
        S.by("Term 2", "GAP more, if its last one is not COUNTER L and one");
        Asked x = dearText();
        x.own(0, 18, 1);
        S.due("1 at first", x.count(4), 0);
        x.right(0, 9, 2);
        S.due("2 at first", x.count(4), 5);
        x.own(0, 18, 3);
        S.due("3 behind 2", x.count(4), 5);
        x.right(1, 9, 4);
        S.due("4 behind 2", x.count(4), 10);
        x.own(0, 13, 401);
        S.due("4.1", x.count(4), 10);
        x.right(2, 9, 402);
        S.due("4.2", x.count(4), 15);
        x.own(0, 8, 40201);
        S.due("4.2.1", x.count(4), 15);
        x.right(3, 8, 40202);
        S.due("4.2.2", x.count(4), 20);
        x.price(GAP, 0);
        S.due("GAP 0", x.count(4), 0);
        x.price(GAP, 50);
        S.due("GAP 50", x.count(4), 200);
    }

    private static void greatestCost() {
        S.by("Promise 9", "4: COST of THE TREE (the greatest)");
        Asked x = Asked.withPages(20);
        for (int what = 0; what < 4; what++) {
            x.price(what, 50);
        }
        for (int level = 1; level <= 3; level++) {
            x.want(level, 0);
        }
        for (int k = 0; k < 20; k++) {
            x.line(k, 9, 9, true, 0, 0, 0);
        }
        S.due("cost, all text", x.count(4), 20 * 21 * 50);
        S.due("heads", x.count(3), 0);
        x.price(PLAIN, 0);
        S.due("cost, heads as dear", x.count(4), 20 * 21 * 50);
        S.due("heads", x.count(3), 0);
        x.want(1, 1);
        S.due("cost, heads less dear", x.count(4), 20 * 20 * 50);
        S.due("heads", x.count(3), 20);
    }

    private static void leastCostHoldsAheadOfLook() {
        S.by("Term 2", "THE TREE: the LEVELS of the least COST in all");
        Asked x = Asked.withPages(9);
        // as a head the first costs 2 more than as text, but it lets two others be heads of level 2
        x.own(0, 12, 0);
        x.want(1, 18);
        levels("alone it is text", x, 0);
        x.own(1, 13, 101);
        levels("one more is worth it", x, 1, 2);
        S.due("cost", x.count(4), 13);
        x.price(HEAD, 5);
        levels("too dear", x, 0, 0);
        S.due("cost", x.count(4), 25);
        x.own(2, 13, 102);
        levels("three are worth it", x, 1, 2, 2);
        S.due("cost", x.count(4), 31);
    }

    private static void textOrHead() {
        S.by("Term 2", "of equal ones that with the less LEVEL (0 or 1)");
        Asked x = Asked.withPages(1);
        x.own(0, 10, 0);
        x.want(1, 10);
        x.price(PLAIN, 10);
        levels("10 and 10", x, 0);
        S.due("cost", x.count(4), 10);
        x.price(PLAIN, 9);
        levels("10 and 9", x, 1);
        S.due("cost", x.count(4), 9);
        x.price(PLAIN, 11);
        levels("10 and 11", x, 0);
        S.due("cost", x.count(4), 10);
    }

    private static void lessLevelOfEqualOnes() {
        S.by("Term 2", "of equal ones that with the less LEVEL (1 or 2, 2 or 3)");
        Asked x = dearText();
        x.own(0, 18, 1);
        x.own(0, 10, 0);
        x.want(1, 12);
        x.want(2, 8);
        levels("1 as dear as 2", x, 1, 1);
        x.want(2, 9);
        levels("2 is less", x, 1, 2);
        Asked y = dearText();
        y.own(0, 18, 1);
        y.own(0, 13, 101);
        y.own(0, 10, 0);
        y.want(2, 12);
        y.want(3, 8);
        levels("2 as dear as 3", y, 1, 2, 2);
        y.want(3, 9);
        levels("3 is less", y, 1, 2, 3);
        y.want(1, 10);
        y.want(2, 10);
        y.want(3, 10);
        levels("all as dear", y, 1, 2, 1);
    }

    private static void firstUnlikeLine() {
        S.by("Term 2", "the less LEVEL at the first LINE that is not alike");
        Asked x = Asked.withPages(1);
        x.own(0, 18, 5);
        x.own(0, 18, 5);
        levels("one of two", x, 0, 1);
        x.own(0, 18, 5);
        levels("one of three", x, 0, 0, 1);
        Asked y = Asked.withPages(1);
        y.own(0, 18, 1);
        y.own(0, 18, 3);
        y.own(0, 18, 3);
        levels("the first is alike", y, 1, 0, 1);
        S.due("cost", y.count(4), 18 + 5);
        for (int what = 0; what < 4; what++) {
            y.price(what, 0);
        }
        levels("all cost nothing", y, 0, 0, 0);
    }

    private static void partsAndTheirPages() {
        S.by("Term 2", "PART of a HEAD: from its PAGE to that of the next HEAD whose LEVEL is not greater");
        Asked x = Asked.withPages(60);
        int[] pages = {0, 3, 5, 7, 9, 11, 13, 20};
        int[] looks = {18, 13, 8, 8, 0, 13, 18, 18};
        int[] numbers = {1, 101, 10101, 10102, 0, 102, 2, 3};
        for (int k = 0; k < pages.length; k++) {
            x.own(pages[k], looks[k], numbers[k]);
        }
        levels("the heads", x, 1, 2, 3, 3, 0, 2, 1, 1);
        S.dueRow("last page", k -> x.of(k, 5), 13, 11, 7, 11, NONE, 13, 20, 59);
        S.by("Term 2", "(without one to the last PAGE)");
        S.due("of the last", x.of(7, 5), 59);
        x.drop();
        x.drop();
        S.dueRow("last page", k -> x.of(k, 5), 59, 11, 7, 11, NONE, 59);
    }

    private static void partsOfOnePage() {
        S.by("Promise 10", "5: the last PAGE of its PART (NONE if it is no HEAD)");
        Asked x = new Asked();
        x.own(0, 18, 1);
        x.own(0, 18, 2);
        x.own(0, 1, 0);
        S.dueRow("of a book of one page", k -> x.of(k, 5), 0, 0, NONE);
        Asked y = Asked.withPages(60);
        y.own(59, 18, 1);
        y.own(59, 18, 2);
        S.dueRow("on the last page", k -> y.of(k, 5), 59, 59);
        Asked z = Asked.withPages(60);
        z.own(7, 18, 1);
        z.own(7, 13, 101);
        z.own(7, 18, 2);
        S.dueRow("heads of one page", k -> z.of(k, 5), 7, 7, 59);
    }

    private static void headsAbove() {
        S.by("Promise 10", "7: the HEAD above it: the latest ahead of a less LEVEL (NONE; of no HEAD NONE)");
        Asked x = Asked.withPages(1);
        int[] looks = {0, 18, 0, 13, 8, 8, 13, 8, 18, 13, 0};
        int[] numbers = {0, 1, 0, 101, 10101, 10102, 102, 10201, 2, 201, 0};
        for (int k = 0; k < looks.length; k++) {
            x.own(0, looks[k], numbers[k]);
        }
        levels("the heads", x, 0, 1, 0, 2, 3, 3, 2, 3, 1, 2, 0);
        S.dueRow("head above", k -> x.of(k, 7), NONE, NONE, NONE, 1, 3, 3, 1, 6, NONE, 8, NONE);
        Asked y = Asked.withPages(1);
        y.own(0, 18, 1);
        y.own(0, 13, 101);
        y.own(0, 8, 10101);
        y.own(0, 13, 102);
        S.dueRow("head above, the first LINE", k -> y.of(k, 7), NONE, 0, 1, 0);
    }

    private static void fullBook() {
        S.by("Term 1", "LINES (at most 20): THE TREE of all of them");
        Asked x = Asked.withPages(60);
        for (int k = 0; k < 20; k++) {
            int part = k / 5 + 1;
            x.own(3 * k, k % 5 == 0 ? 18 : 13, k % 5 == 0 ? part : 100 * part + k % 5);
        }
        S.due("heads", x.count(3), 20);
        S.due("cost", x.count(4), 0);
        levels("the heads", x, 1, 2, 2, 2, 2, 1, 2, 2, 2, 2, 1, 2, 2, 2, 2, 1, 2, 2, 2, 2);
        S.due("last page of the first", x.of(0, 5), 15);
        S.due("last page of the last", x.of(19, 5), 59);
        S.due("head above the last", x.of(19, 7), 15);
        S.due("counter 1", x.counter(19, 1), 4);
        S.due("counter 2", x.counter(19, 2), 4);
        x.right(19, 8, 404);
        S.due("cost of the last", x.count(4), 2);
        x.right(0, 8, 1);
        S.due("cost of the first", x.count(4), 4);
    }

    private static void ofItsEdges() {
        S.by("Promise 10", "NoSuchElementException: none such, another what.");
        Asked x = Asked.withPages(60);
        for (int lines = 0; lines <= 20; lines++) {
            for (int what : new int[] {0, 7}) {
                S.due("of(-1, " + what + ")", x.of(-1, what), THROWN);
                S.due("of(lines, " + what + ")", x.of(lines, what), THROWN);
            }
            if (lines > 0) {
                S.due("page of the first", x.of(0, 0), 0);
                S.due("page of the last", x.of(lines - 1, 0), 3 * lines - 3);
                S.due("head above the last", x.of(lines - 1, 7), NONE);
                S.due("of(last, 8)", x.of(lines - 1, 8), THROWN);
                S.due("of(0, -1)", x.of(0, -1), THROWN);
            }
            x.own(3 * lines, 18, 0);
        }
    }

    private static void counterItsEdges() {
        S.by("Promise 11", "The COUNTER of a LEVEL (1 .. 3) behind a LINE, in THE TREE. NONE: none such.");
        Asked x = Asked.withPages(60);
        for (int lines = 0; lines <= 20; lines++) {
            S.due("counter(-1, 1)", x.counter(-1, 1), NONE);
            S.due("counter(lines, 1)", x.counter(lines, 1), NONE);
            if (lines > 0) {
                int last = lines - 1;
                S.dueRow("counter of the last", level -> x.counter(last, level), NONE, lines, 0, 0, NONE);
                S.due("counter(0, -1)", x.counter(0, -1), NONE);
            }
            x.own(3 * lines, 18, 0);
        }
    }
}
