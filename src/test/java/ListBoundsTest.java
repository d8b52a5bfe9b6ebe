/** The bounds of term 3 and of the promises of THE LIST: entry, clear, partner, and what count and of tell of it. */
public final class ListBoundsTest {
    private static final Sentences S = new Sentences();
    private static final long NONE = Asked.NONE;
    private static final int SLIP = 4;
    private static final int LEVEL = 5;
    private static final int PAGE = 6;
    private static final int MISS = 7;
    private static final int FIVES = 0x05050505;

    public static void main(String[] args) {
        emptyOnes();
        levelOfEntry();
        numberOfEntry();
        wordsOfEntry();
        missForEach();
        slipForEachPlace();
        levelTimesDifference();
        pageIsAnotherOne();
        noneIsZero();
        costsAtTheirEnds();
        partnerOrTwoMisses();
        inTheirOrder();
        lessLineOfEqualOnes();
        partnerAheadOfNone();
        firstEntryWithUnlikePartners();
        onlyHeadsArePartners();
        partnersBothWays();
        moreEntriesThanHeads();
        fullListAndBook();
        clearedList();
        heldAgainstTheNewTree();
        bookWithoutList();
        S.end();
    }

    /** A head of level 1 at no cost: its NUMBERS are those due. */
    private static void head(Asked x, int page, int a, int b) {
        int next = (int) x.count(1) + 1;
        x.line(page, 9, 9, false, a, b, next <= 12 ? next : 0);
    }

    private static Asked withHeads(int heads) {
        Asked x = Asked.withPages(60);
        for (int k = 0; k < heads; k++) {
            head(x, k, FIVES + k, 0);
        }
        return x;
    }

    private static void partners(String call, Asked x, long... want) {
        S.dueRow(call + ": partner", x::partner, want);
    }

    private static void emptyOnes() {
        S.by("Promise 9", "2: ENTRIES, .. 5: COST of THE LIST HELD (of none)");
        Asked x = new Asked();
        S.due("entries", x.count(2), 0);
        S.due("cost without heads and entries", x.count(5), 0);
        S.due("partner(0)", x.partner(0), NONE);
        head(x, 0, 1, 1);
        S.due("cost of a head alone", x.count(5), 12);
        S.due("of(0, 6)", x.of(0, 6), NONE);
        x.drop();
        x.entry(1, 0, 1, 1);
        S.due("cost of an entry alone", x.count(5), 12);
        S.due("partner(0)", x.partner(0), NONE);
    }

    private static void levelOfEntry() {
        S.by("Term 3", "ENTRIES: a LEVEL 1 .. 3");
        Asked x = new Asked();
        S.due("level 0", x.entry(0, 0, 0, 0), NONE);
        S.due("level 4", x.entry(4, 0, 0, 0), NONE);
        S.due("level -1", x.entry(-1, 0, 0, 0), NONE);
        S.due("level 1", x.entry(1, 0, 0, 0), 0);
        S.due("level 2", x.entry(2, 0, 0, 0), 1);
        S.due("level 3", x.entry(3, 0, 0, 0), 2);
        S.due("entries", x.count(2), 3);
    }

    private static void numberOfEntry() {
        S.by("Term 3", "ENTRIES: .. a printed number 0 .. 999");
        int[] numbers = {0, 1, 998, 999};
        for (int number : numbers) {
            Asked x = withHeads(1);
            x.read(0, number);
            S.due("number -1", x.entry(1, -1, FIVES, 0), NONE);
            S.due("number 1000", x.entry(1, 1000, FIVES, 0), NONE);
            S.due("number " + number, x.entry(1, number, FIVES, 0), 0);
            S.due("cost, as READ", x.count(5), 0);
            x.read(0, number == 999 ? 998 : number + 1);
            S.due("cost, READ one beside", x.count(5), 3);
        }
    }

    private static void wordsOfEntry() {
        S.by("Term 3", "ENTRIES: .. WORDS (each place a letter 1 .. 26, or 0)");
        for (int bits = 0; bits < 32; bits += 8) {
            Asked x = new Asked();
            S.due("0 in a", x.entry(1, 0, 0, 0), 0);
            S.due("1 in a", x.entry(1, 0, 1 << bits, 0), 1);
            S.due("26 in a", x.entry(1, 0, 26 << bits, 0), 2);
            S.due("27 in a", x.entry(1, 0, 27 << bits, 0), NONE);
            S.due("128 in a", x.entry(1, 0, 128 << bits, 0), NONE);
            S.due("255 in a", x.entry(1, 0, 255 << bits, 0), NONE);
            S.due("1 in b", x.entry(1, 0, 0, 1 << bits), 3);
            S.due("26 in b", x.entry(1, 0, 0, 26 << bits), 4);
            S.due("27 in b", x.entry(1, 0, 0, 27 << bits), NONE);
            S.due("128 in b", x.entry(1, 0, 0, 128 << bits), NONE);
            S.due("255 in b", x.entry(1, 0, 0, 255 << bits), NONE);
            S.due("entries", x.count(2), 5);
        }
        Asked x = new Asked();
        int z = 0x1a1a1a1a;
        S.due("26 in all places", x.entry(1, 0, z, z), 0);
        S.due("-1", x.entry(1, 0, -1, -1), NONE);
    }

    private static void missForEach() {
        S.by("Term 3", "COST: MISS for each without");
        for (int heads : new int[] {0, 1, 19, 20}) {
            Asked x = withHeads(heads);
            x.price(MISS, 1);
            S.due("cost of " + heads + " heads", x.count(5), heads);
            for (int entries = 1; entries <= 12; entries++) {
                x.entry(3, 0, 0, FIVES);
                S.due("cost of " + heads + " heads, " + entries + " entries", x.count(5), heads + entries);
            }
            x.price(MISS, 0);
            S.due("MISS 0", x.count(5), 0);
        }
    }

    private static void slipForEachPlace() {
        S.by("Term 3", "SLIP for each place of WORDS that is not alike");
        for (int bits = 0; bits < 32; bits += 8) {
            for (int letter : new int[] {0, 1, 4, 6, 26}) {
                int other = FIVES & ~(255 << bits) | letter << bits;
                Asked x = new Asked();
                head(x, 0, FIVES, FIVES);
                x.entry(1, 0, other, FIVES);
                S.due("one place of a", x.count(5), 2);
                x.clear();
                x.entry(1, 0, FIVES, other);
                S.due("one place of b", x.count(5), 2);
                x.clear();
                x.entry(1, 0, other, other);
                S.due("a place of both", x.count(5), 4);
            }
        }
        Asked x = new Asked();
        head(x, 0, FIVES, FIVES);
        x.entry(1, 0, FIVES, FIVES);
        S.due("no place", x.count(5), 0);
        x.clear();
        x.entry(1, 0, 0x06060606, 0x04040404);
        S.due("all eight places", x.count(5), 16);
        x.clear();
        x.entry(1, 0, 0, 0);
        S.due("all eight places, of 0", x.count(5), 16);
        partners("all eight places", x, 0);
    }

    private static void levelTimesDifference() {
        S.by("Term 3", "LEVEL times the size of the LEVELS' difference");
        int[] looks = {18, 13, 8};
        int[] numbers = {1, 101, 10101};
        for (int headLevel = 1; headLevel <= 3; headLevel++) {
            Asked x = new Asked();
            x.price(SLIP, 50);
            for (int k = 0; k < headLevel; k++) {
                x.own(0, looks[k], numbers[k]);
            }
            S.due("level of the last head", x.of(headLevel - 1, 3), headLevel);
            for (int level = 1; level <= 3; level++) {
                x.entry(level, 0, 25 << 24 | headLevel << 16, 0);
                int apart = Math.abs(level - headLevel);
                S.due("cost of " + level + " by " + headLevel, x.count(5), 12 * (headLevel - 1) + 4 * apart);
                S.due("partner", x.partner(0), headLevel - 1);
                x.clear();
            }
        }
    }

    private static void pageIsAnotherOne() {
        S.by("Term 3", "PAGE if the READ number of the HEAD's PAGE is another one");
        Asked x = Asked.withNumbers(8, 10, 12);
        head(x, 1, 1, 1);
        int[] numbers = {10, 9, 11, 8, 12, 0, 999};
        for (int number : numbers) {
            x.clear();
            x.entry(1, number, 1, 1);
            S.due("number " + number, x.count(5), number == 10 ? 0 : 3);
        }
        x.read(1, 999);
        S.due("READ 999 and 999", x.count(5), 0);
        x.read(1, 998);
        S.due("READ 998 and 999", x.count(5), 3);
        x.price(PAGE, 0);
        S.due("PAGE 0", x.count(5), 0);
    }

    private static void noneIsZero() {
        S.by("Term 3", "(none is 0)");
        Asked x = Asked.withPages(1);
        head(x, 0, 1, 1);
        x.entry(1, 0, 1, 1);
        S.due("none and 0", x.count(5), 0);
        x.read(0, 1);
        S.due("1 and 0", x.count(5), 3);
        x.clear();
        x.entry(1, 1, 1, 1);
        S.due("1 and 1", x.count(5), 0);
        x.read(0, 0);
        S.due("none and 1", x.count(5), 3);
    }

    private static void costsAtTheirEnds() {
        S.by("Term 1", "PRICES (each 0 .. 50): those of THE LIST");
        Asked x = Asked.withPages(1);
        x.price(SLIP, 50);
        x.price(LEVEL, 50);
        x.price(PAGE, 50);
        x.price(MISS, 50);
        head(x, 0, FIVES, FIVES);
        x.entry(3, 1, FIVES, FIVES);
        S.due("two LEVELS and a PAGE are dearer than two MISSES", x.count(5), 100);
        partners("dearer", x, NONE);
        x.clear();
        x.entry(2, 1, FIVES, FIVES);
        S.due("a LEVEL and a PAGE", x.count(5), 100);
        partners("as dear", x, 0);
        x.clear();
        x.entry(1, 0, FIVES, FIVES + 0x00010101);
        S.due("three SLIPS", x.count(5), 100);
        partners("dearer", x, NONE);
        x.price(SLIP, 0);
        S.due("SLIP 0", x.count(5), 0);
        partners("SLIP 0", x, 0);
        x.clear();
        x.entry(3, 0, FIVES, FIVES);
        x.price(LEVEL, 0);
        S.due("LEVEL 0", x.count(5), 0);
    }

    private static void partnerOrTwoMisses() {
        S.by("Term 3", "The least COST (two PARTNERS, or MISS for both)");
        Asked x = new Asked();
        head(x, 0, FIVES, FIVES);
        x.entry(1, 0, 0, 0);
        x.price(MISS, 9);
        S.due("16 and 18", x.count(5), 16);
        partners("16 and 18", x, 0);
        x.price(MISS, 8);
        S.due("16 and 16", x.count(5), 16);
        S.due("partner is less than none", x.partner(0), 0);
        S.due("of(0, 6)", x.of(0, 6), 0);
        x.price(MISS, 7);
        S.due("16 and 14", x.count(5), 14);
        partners("16 and 14", x, NONE);
        S.due("of(0, 6)", x.of(0, 6), NONE);
    }

    private static void inTheirOrder() {
        S.by("Term 3", "ENTRIES and HEADS, both in their order, have PARTNERS");
        Asked x = Asked.withPages(2);
        x.price(SLIP, 8);
        head(x, 0, FIVES, FIVES);
        head(x, 1, 0, 0);
        x.entry(1, 0, 0, 0);
        x.entry(1, 0, FIVES, FIVES);
        S.due("one of two that cross", x.count(5), 24);
        partners("a LINE for the first is less than none", x, 1, NONE);
        x.clear();
        x.entry(1, 0, FIVES, FIVES);
        x.entry(1, 0, 0, 0);
        S.due("in order", x.count(5), 0);
        partners("in order", x, 0, 1);
    }

    private static void lessLineOfEqualOnes() {
        S.by("Term 3", "of equal ones: .. (by number of the LINE) the less");
        Asked x = Asked.withPages(1);
        for (int k = 0; k < 3; k++) {
            x.own(0, 0, 0);
            x.line(0, 9, 9, false, 0, 1, k + 1);
        }
        x.entry(1, 0, 0, 1);
        partners("one of three", x, 1);
        x.entry(1, 0, 0, 1);
        partners("two of three", x, 1, 3);
        x.entry(1, 0, 0, 1);
        partners("three of three", x, 1, 3, 5);
        S.dueRow("of line", k -> x.of(k, 6), NONE, 0, NONE, 1, NONE, 2);
        S.due("cost", x.count(5), 0);
    }

    private static void partnerAheadOfNone() {
        S.by("Term 3", "none being greater than all");
        Asked x = Asked.withPages(1);
        x.price(MISS, 0);
        for (int k = 0; k < 20; k++) {
            x.line(0, 9, 9, false, k == 19 ? 7 : 0, 0, 0);
        }
        x.entry(1, 0, 7, 0);
        partners("at no cost the last LINE is less than none", x, 19);
        x.clear();
        x.entry(1, 0, 8, 0);
        partners("at a cost none is least", x, NONE);
    }

    private static void firstEntryWithUnlikePartners() {
        S.by("Term 3", "for the first ENTRY with unlike PARTNERS");
        Asked x = new Asked();
        head(x, 0, 7, 7);
        x.entry(1, 0, 7, 7);
        x.entry(1, 0, 7, 7);
        x.entry(1, 0, 7, 7);
        partners("one head, three entries", x, 0, NONE, NONE);
        S.due("cost", x.count(5), 24);
        x.clear();
        x.entry(1, 0, 7, 8);
        x.entry(1, 0, 7, 7);
        x.entry(1, 0, 7, 7);
        partners("the first costs more", x, NONE, 0, NONE);
        Asked y = Asked.withPages(1);
        head(y, 0, 7, 7);
        head(y, 0, 8, 8);
        head(y, 0, 7, 7);
        y.price(SLIP, 13);
        y.entry(1, 0, 7, 7);
        y.entry(1, 0, 8, 8);
        y.entry(1, 0, 7, 7);
        partners("all fit", y, 0, 1, 2);
        y.clear();
        y.entry(1, 0, 8, 8);
        y.entry(1, 0, 7, 7);
        y.entry(1, 0, 8, 8);
        // 8 by line 1 and 7 by line 2; or 7 by line 0 and 8 by line 1: the first entry's less LINE counts
        partners("two ways", y, 1, 2, NONE);
        S.due("cost of two ways", y.count(5), 24);
    }

    private static void onlyHeadsArePartners() {
        S.by("Term 3", "HELD against THE TREE's HEADS");
        Asked x = Asked.withPages(5);
        x.line(0, 0, 0, false, 7, 7, 0);
        for (int page = 0; page < 3; page++) {
            x.line(page, 9, 9, false, 8, 8, 0);
        }
        x.entry(1, 0, 7, 7);
        x.entry(1, 0, 8, 8);
        S.due("no heads", x.count(3), 0);
        partners("a text, running ones", x, NONE, NONE);
        S.due("cost", x.count(5), 24);
        x.want(0, 4);
        S.due("three heads", x.count(3), 3);
        partners("three heads", x, 1, 2);
        S.due("cost", x.count(5), 4 + 12);
    }

    private static void partnersBothWays() {
        S.by("Promise 14", "The PARTNER of an ENTRY: a LINE; NONE without, or for no such.");
        Asked x = withHeads(4);
        x.price(SLIP, 30);
        x.entry(1, 0, FIVES + 1, 0);
        x.entry(1, 0, 1, 1);
        x.entry(1, 0, FIVES + 3, 0);
        partners("of entries", x, 1, NONE, 3, NONE);
        S.due("partner(-1)", x.partner(-1), NONE);
        S.due("partner(MAX)", x.partner(Integer.MAX_VALUE), NONE);
        S.due("partner(MIN)", x.partner(Integer.MIN_VALUE), NONE);
        S.by("Promise 10", "6: its PARTNER (NONE)");
        S.dueRow("of lines", k -> x.of(k, 6), NONE, 0, NONE, 2);
        S.due("cost", x.count(5), 36);
    }

    private static void moreEntriesThanHeads() {
        S.by("Term 3", "have PARTNERS, or none");
        Asked x = withHeads(2);
        for (int k = 0; k < 12; k++) {
            x.entry(1, 0, FIVES + (k == 11 ? 1 : 0), 0);
        }
        partners("twelve by two", x, 0, NONE, NONE, NONE, NONE, NONE, NONE, NONE, NONE, NONE, NONE, 1, NONE);
        S.due("cost", x.count(5), 120);
    }

    private static void fullListAndBook() {
        S.by("Term 3", "at most 12 ENTRIES (and 20 HEADS)");
        Asked x = withHeads(20);
        x.price(SLIP, 50);
        for (int k = 8; k < 20; k++) {
            S.due("entry", x.entry(1, 0, FIVES + k, 0), k - 8);
        }
        S.due("heads", x.count(3), 20);
        partners("the last twelve", x, 8, 9, 10, 11, 12, 13, 14, 15, 16, 17, 18, 19);
        S.due("cost", x.count(5), 8 * 12);
        S.due("of(19, 6)", x.of(19, 6), 11);
        S.due("of(7, 6)", x.of(7, 6), NONE);
        x.price(SLIP, 0);
        partners("all alike", x, 0, 1, 2, 3, 4, 5, 6, 7, 8, 9, 10, 11);
        x.price(SLIP, 50);
        x.price(LEVEL, 50);
        x.price(MISS, 50);
        x.clear();
        for (int k = 0; k < 12; k++) {
            x.entry(3, 1, 0, 0);
        }
        S.due("the greatest cost", x.count(5), 32 * 50);
        partners("none", x, NONE, NONE, NONE, NONE, NONE, NONE, NONE, NONE, NONE, NONE, NONE, NONE);
    }

    private static void clearedList() {
        S.by("Promise 13", "THE LIST is empty: how many it had.");
        Asked x = withHeads(2);
        x.entry(1, 0, FIVES, 0);
        x.entry(1, 0, FIVES + 1, 0);
        S.due("cost", x.count(5), 0);
        S.due("clear()", x.clear(), 2);
        partners("cleared", x, NONE, NONE);
        S.dueRow("of line", k -> x.of(k, 6), NONE, NONE);
        S.due("entries", x.count(2), 0);
        S.due("cost", x.count(5), 24);
        S.due("lines stay", x.count(1), 2);
        S.due("heads stay", x.count(3), 2);
        S.due("the next entry's number", x.entry(1, 0, FIVES + 1, 0), 0);
        partners("anew", x, 1, NONE);
        S.due("clear()", x.clear(), 1);
        S.due("clear()", x.clear(), 0);
    }

    private static void heldAgainstTheNewTree() {
        S.by("Term 3", "HELD against THE TREE's HEADS (when THE TREE is another one)");
        Asked x = withHeads(3);
        x.price(SLIP, 30);
        x.entry(1, 0, FIVES + 2, 0);
        partners("at first", x, 2);
        S.due("drop()", x.drop(), 2);
        partners("its line dropped", x, NONE);
        S.due("cost", x.count(5), 36);
        head(x, 2, FIVES + 2, 0);
        partners("its line again", x, 2);
        x.right(2, 0, 1);
        partners("its line no head", x, NONE);
        S.due("of(2, 6)", x.of(2, 6), NONE);
        x.right(2, 9, 3);
        x.read(2, 40);
        S.due("READ now", x.count(5), 24 + 3);
        x.price(0, 0);
        S.due("no heads at all", x.count(5), 12);
        x.price(0, 1);
        x.want(1, 0);
        S.due("heads of another WANT", x.count(3), 0);
        partners("no heads", x, NONE);
    }

    private static void bookWithoutList() {
        S.by("Promise 2", "without .. ENTRIES");
        Asked x = withHeads(1);
        x.entry(1, 0, FIVES, 0);
        partners("ahead", x, 0);
        x.book(60);
        partners("behind", x, NONE);
        S.due("cost", x.count(5), 0);
        head(x, 0, FIVES, 0);
        S.due("cost of a head", x.count(5), 12);
        S.due("of(0, 6)", x.of(0, 6), NONE);
    }
}
