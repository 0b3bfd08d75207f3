import java.io.IOException;
import java.util.function.Supplier;

/** The edges that the document names for the choice: promises 13 to 18. */
public final class EdgesOfChoiceTest {
    private static final int NONE = Book.NONE;
    private static final int LOW = 1;
    private static final int HIGH = 2;
    private static Edges edges;

    public static void main(String[] args) throws IOException {
        edges = new Edges("EdgesOfChoiceTest");
        choiceAtFirst();
        choiceStays();
        chooseAll();
        chooseRefused();
        chooseTakesPagesAway();
        lowToHigh();
        lowToHighOfEachChild();
        whoCounts();
        wrongWithNothing();
        wrongLeastFirst();
        bestOfNone();
        bestAtTheBounds();
        bestOfMostWorth();
        bestOfEqualWorth();
        bestLeavesOutWorthless();
        bestTakesPagesAway();
        bestWhereNoneFits();
        mendOfNone();
        mendAllFourteen();
        mendOfEqualNearness();
        mendWhatIsNotGood();
        mendTakesPagesAway();
        mendWhereNoneFits();
        choicesOfNone();
        choicesAtTheBounds();
        choicesLowAboveHigh();
        lackingOfNone();
        lackingAtTheBounds();
        lackingLeast();
        lackingWhatCounts();
        edges.end(13, 18);
    }

    /** So many pictures of a worth, child 0 in each of them. */
    private static Book oneChild(int pictures, int worth) {
        Book b = Book.withChildren(1);
        for (int p = 0; p < pictures; p++) {
            b.show(worth, 0);
        }
        return b;
    }

    private static Book bounded(Book b, int low, int high) {
        b.set(LOW, low);
        b.set(HIGH, high);
        return b;
    }

    // ---- the choice

    private static void choiceAtFirst() {
        edges.words(Edges.TERMS, "THE CHOICE: none at first.");
        edges.due("of a new one", 0, new Book().count(2));
        Book b = oneChild(14, 100);
        edges.due("pictures do not come into it by themselves", 0, b.count(2));
        edges.due("its worth", 0, b.count(3));
    }

    private static void choiceStays() {
        edges.words(Edges.TERMS, "It stays as told, whatever else is told.");
        Book b = Book.small();
        int pages = b.count(4);
        int[] first = {b.page(0), b.page(1)};
        b.child(5);
        b.picture(0, 100, 1);
        b.face(0, 3, 25, 12, 0);
        b.consent(3, 0);
        edges.due("a picture of it is not good", 6, b.count(5));
        for (int c = 0; c < 4; c++) {
            b.consent(c, 0);
        }
        edges.due("no picture is good", 0, b.count(5));
        bounded(b, 14, 0);
        b.set(0, 50);
        b.set(3, 1);
        edges.due("the choice", 7, b.count(2));
        edges.due("its worth", 60, b.count(3));
        edges.due("its pages", pages, b.count(4));
        edges.due("page 0", first[0], b.page(0));
        edges.due("page 1", first[1], b.page(1));
        edges.due("it does not fit", 1, b.wrong());
    }

    // ---- promise 13

    private static void chooseAll() {
        edges.words(13, "THE CHOICE becomes bits: true.");
        for (int n = 0; n <= 14; n++) {
            Book b = Book.ofSize(1, n);
            int all = (1 << n) - 1;
            for (int bits : new int[] {0, all, all & 0x1555, all & 0x2AAA, all >> 1, all ^ all >> 1}) {
                edges.due("of " + n + ": " + bits, 1, b.choose(bits));
                edges.due("of " + n + ": it is so", bits, b.count(2));
            }
        }
        Book b = Book.ofSize(1, 4);
        for (int bits = 0; bits < 16; bits++) {
            edges.due("each set of four", 1, b.choose(bits));
            edges.due("each set of four", bits, b.count(2));
        }
    }

    private static void chooseRefused() {
        edges.words(13, "Refused: others than PICTURES that there are.");
        for (int n = 0; n <= 14; n++) {
            Supplier<Book> some = Book::new;
            if (n > 0) {
                int[] sizes = new int[n];
                java.util.Arrays.fill(sizes, 5);
                some = () -> Book.laid(sizes);
            }
            int all = (1 << n) - 1;
            for (int bits : Edges.outside(0, all)) {
                edges.keeps("of " + n + ": " + bits, 0, some, b -> b.choose(bits));
            }
            for (int bit = n; bit < 32; bit++) {
                int with = all | 1 << bit;
                edges.keeps("of " + n + ": all and " + bit, 0, some, b -> b.choose(with));
            }
        }
    }

    private static void chooseTakesPagesAway() {
        edges.words(13, "(Nothing is LAID then.)");
        for (int bits : new int[] {0, 1, 7, 15}) {
            Book b = Book.small();
            edges.due("choose(" + bits + ")", 1, b.choose(bits));
            edges.due("pages", 0, b.count(4));
            edges.due("page 0", NONE, b.page(0));
            edges.due("page of picture 0", NONE, b.told(0, 10));
            edges.due("late", NONE, b.late(3));
            edges.due("drop", 0, b.drop(0));
            edges.due("the choice", bits, b.count(2));
        }
        Book b = Book.small();
        b.choose(16);
        edges.due("a refused call leaves the pages", 2, b.count(4));
    }

    // ---- promise 14, and what fits

    private static void lowToHigh() {
        edges.words(Edges.TERMS, "It FITS, if each of these CHILDREN is SEEN in LOW to HIGH of it.");
        for (int times = 0; times <= 14; times++) {
            Book b = oneChild(14, 1);
            b.choose((1 << times) - 1);
            for (int bound = 0; bound <= 14; bound++) {
                bounded(b, bound, 14);
                edges.due(times + " times, LOW " + bound, times < bound ? 2 : 0, b.wrong());
                bounded(b, 0, bound);
                edges.due(times + " times, HIGH " + bound, times > bound ? 3 : 0, b.wrong());
                bounded(b, bound, bound);
                edges.due(times + " times, both " + bound, times < bound ? 2 : times > bound ? 3 : 0, b.wrong());
            }
        }
    }

    /** Each of the 16 children is in 13 pictures, with another one that is in the 14th too. */
    private static void lowToHighOfEachChild() {
        edges.words(Edges.TERMS, "It FITS, if each of these CHILDREN is SEEN in LOW to HIGH of it.");
        for (int child = 0; child < 16; child++) {
            Book b = Book.withChildren(16);
            for (int p = 0; p < 14; p++) {
                b.show(1, p < 13 ? new int[] {child, child ^ 1} : new int[] {child ^ 1});
            }
            for (int k = 0; k <= 13; k++) {
                edges.due("child " + child + " just " + k + " times", binomial(13, k), justSo(b, k, child));
                bounded(b, 0, k);
                edges.due("child " + child + ", HIGH " + k, k, b.best());
                bounded(b, k, 14);
                edges.due("child " + child + ", LOW " + k, 14, b.best());
            }
            bounded(b, 14, 14);
            edges.due("child " + child + " is in 13 only", NONE, b.best());
            edges.due("child " + child + " is in 13 only", NONE, b.mend());
            edges.due("child " + child + " is in 13 only", 0, b.choices());
        }
    }

    /** How many choices fit in which each is seen just k times; NONE if mend finds none of them. */
    private static int justSo(Book b, int k, int child) {
        bounded(b, k, k);
        int alone = b.choices();
        int n = b.mend() < 0 ? NONE : b.seen(child);
        return n == k && b.seen(child ^ 1) == k ? alone : NONE;
    }

    private static int binomial(int n, int k) {
        int ways = 1;
        for (int i = 0; i < k; i++) {
            ways = ways * (n - i) / (i + 1);
        }
        return ways;
    }

    private static void whoCounts() {
        edges.words(Edges.TERMS, "of each CHILD that is in a GOOD PICTURE's SEEN");
        Book b = Book.withChildren(4).show(5, 0);
        b.picture(1, 9, 1);
        b.face(1, 1, 50, 50, 5);
        b.face(1, 2, 52, 50, 5);
        b.consent(2, 5);
        b.face(0, 2, 90, 90, 5);
        b.consent(2, 4);
        bounded(b, 1, 1);
        b.choose(1);
        edges.due("who is in none, in one that is not good, or may not: they do not count", 0, b.wrong());
        edges.due("who counts", 1, b.count(6));
        edges.due("choices", 1, b.choices());
        edges.due("best", 5, b.best());
        edges.due("mend", 0, b.mend());
        b.consent(2, 6);
        edges.due("both may now, in a good one", 7, b.count(6));
        edges.due("then they count", 2, b.wrong());
        edges.due("one choice", 1, b.choices());
        edges.due("mend", 1, b.mend());
        edges.due("with it", 3, b.count(2));
    }

    private static void wrongWithNothing() {
        edges.words(14, "Whether THE CHOICE FITS: 0");
        edges.due("a new one", 0, new Book().wrong());
        edges.due("no good picture, LOW above HIGH", 0, bounded(Book.withChildren(16), 14, 0).wrong());
        edges.due("no choice, LOW 0, HIGH 0", 0, bounded(oneChild(3, 1), 0, 0).wrong());
        edges.due("no choice, LOW 1", 2, bounded(oneChild(3, 1), 1, 14).wrong());
        edges.keeps("it changes nothing", 0, Book::small, Book::wrong);
    }

    private static void wrongLeastFirst() {
        edges.words(14, "(the least of these that is so)");
        Book b = Book.withChildren(2).show(1, 1).show(1, 1).show(1, 0).show(1);
        bounded(b, 1, 1);
        b.choose(8 | 3);
        edges.due("all three", 1, b.wrong());
        b.choose(3);
        edges.due("child 0 less, child 1 more", 2, b.wrong());
        b.choose(7);
        edges.due("more alone", 3, b.wrong());
        b.choose(5);
        edges.due("none of them", 0, b.wrong());
        b.choose(8 | 5);
        edges.due("not good alone", 1, b.wrong());
        b.choose(8 | 7);
        edges.due("not good, and more", 1, b.wrong());
        Book other = Book.withChildren(2).show(1, 0).show(1, 0).show(1, 1);
        bounded(other, 1, 1).choose(3);
        edges.due("child 0 more, child 1 less", 2, other.wrong());
        bounded(other, 3, 1).choose(7);
        edges.due("less than LOW and more than HIGH, the same child", 2, other.wrong());
    }

    // ---- promise 15

    private static void bestOfNone() {
        edges.words(15, "THE CHOICE is the BEST: its WORTH.");
        edges.due("a new one", 0, new Book().best());
        Book b = Book.ofSizes(5, 5);
        bounded(b, 14, 0).choose(3);
        edges.due("no good picture: none of them fits", 0, b.best());
        edges.due("the choice is empty then", 0, b.count(2));
    }

    private static void bestAtTheBounds() {
        edges.words(15, "THE CHOICE is the BEST: its WORTH.");
        Book b = oneChild(14, 100);
        edges.due("all of the most worth", 1400, b.best());
        edges.due("all", 16383, b.count(2));
        for (int high = 0; high <= 14; high++) {
            bounded(b, 0, high);
            edges.due("HIGH " + high, 100 * high, b.best());
            edges.due("the least numbers", (1 << high) - 1, b.count(2));
            bounded(b, high, 14);
            edges.due("LOW " + high, 1400, b.best());
        }
        Book few = bounded(oneChild(13, 100), 13, 13);
        edges.due("LOW 13 of 13", 1300, few.best());
        bounded(few, 14, 14);
        edges.due("LOW 14 of 13", NONE, few.best());
    }

    private static void bestOfMostWorth() {
        edges.words(Edges.TERMS, "the one with the greatest sum of WORTH");
        Book b = Book.withChildren(2).show(10, 0).show(3, 0).show(5, 1);
        edges.due("the first of child 0's, and child 1's", 15, bounded(b, 0, 1).best());
        edges.due("so", 5, b.count(2));
        Book many = twelveOrTwo(6, 5);
        edges.due("a point more, though of ten pictures more", 12, many.best());
        edges.due("the twelve", 4095, many.count(2));
        Book few = twelveOrTwo(6, 6);
        edges.due("equal: the two", 12, few.best());
        edges.due("the two", 12288, few.count(2));
    }

    /**
     * Just two choices fit: twelve pictures of worth 1, or two more. Children 12 and 13 keep them from being
     * mixed: each is in one of the two, and in one of the twelve that the other of the two stands for.
     */
    private static Book twelveOrTwo(int oneWorth, int otherWorth) {
        Book b = Book.withChildren(14).show(1, 0, 13);
        for (int c = 1; c < 12; c++) {
            b.show(1, c == 6 ? new int[] {6, 12} : new int[] {c});
        }
        b.show(oneWorth, 0, 1, 2, 3, 4, 5, 12).show(otherWorth, 6, 7, 8, 9, 10, 11, 13);
        return bounded(b, 1, 1);
    }

    private static void bestOfEqualWorth() {
        edges.words(Edges.TERMS, "of equal ones the fewest PICTURES; then the least number as bits");
        Book fewest = Book.withChildren(2).show(5, 0).show(5, 1).show(10, 0, 1);
        bounded(fewest, 0, 1);
        edges.due("10 in two ways", 10, fewest.best());
        edges.due("the fewest, though of the greater number", 4, fewest.count(2));
        Book worth = Book.withChildren(2).show(5, 0).show(6, 1).show(10, 0, 1);
        bounded(worth, 0, 1);
        edges.due("a point more", 11, worth.best());
        edges.due("is before the fewest", 3, worth.count(2));
        Book bits = Book.withChildren(4).show(10, 0, 1).show(10, 0, 2).show(10, 1, 3).show(10, 2, 3);
        bounded(bits, 0, 1);
        edges.due("20 in two ways", 20, bits.best());
        edges.due("6 is less than 9", 6, bits.count(2));
        Book apart = Book.withChildren(5).show(20, 0, 4).show(20, 1).show(20, 2, 3);
        for (int p = 3; p < 12; p++) {
            apart.show(0, 0);
        }
        apart.show(30, 0, 1, 3).show(30, 2, 4);
        edges.due("60 in two ways", 60, bounded(apart, 1, 1).best());
        edges.due("the last two, not the first three", 12288, apart.count(2));
        Book last = bounded(oneChild(14, 100), 0, 1);
        last.choose(2);
        edges.due("one of 14, another being chosen", 100, last.best());
        edges.due("the least all the same", 1, last.count(2));
    }

    private static void bestLeavesOutWorthless() {
        edges.words(Edges.TERMS, "of equal ones the fewest PICTURES");
        Book b = oneChild(14, 0);
        edges.due("of no worth", 0, b.best());
        edges.due("none is taken", 0, b.count(2));
        bounded(b, 3, 14);
        edges.due("three must be", 0, b.best());
        edges.due("the least three", 7, b.count(2));
        bounded(b, 14, 14);
        edges.due("all must be", 0, b.best());
        edges.due("all", 16383, b.count(2));
    }

    private static void bestTakesPagesAway() {
        edges.words(15, "(Nothing is LAID then.)");
        Book b = oneChild(3, 7);
        b.best();
        b.lay();
        edges.due("laid", 1, b.count(4));
        edges.due("the same is best", 21, b.best());
        edges.due("nothing laid", 0, b.count(4));
        edges.due("page 0", NONE, b.page(0));
        edges.due("drop", 0, b.drop(0));
    }

    private static Book noneFits() {
        return bounded(Book.small(), 3, 14);
    }

    private static void bestWhereNoneFits() {
        edges.words(15, "NONE: none FITS (it stays).");
        edges.refused("LOW is more than there are", EdgesOfChoiceTest::noneFits, Book::best);
        edges.refused("LOW above HIGH", () -> bounded(Book.small(), 1, 0), Book::best);
        edges.refused("of a full one", () -> bounded(Book.full(), 2, 14), Book::best);
        Supplier<Book> against = () -> bounded(Book.withChildren(2).show(9, 0).show(9, 0, 1).show(9, 0, 1), 2, 2);
        edges.due("child 1 twice, child 0 not thrice", 18, against.get().best());
        Supplier<Book> both = () -> bounded(Book.withChildren(3).show(9, 0, 1).show(9, 0, 2), 1, 1);
        edges.refused("one too often or another too seldom", both, Book::best);
    }

    // ---- promise 16

    private static void mendOfNone() {
        edges.words(16, "THE CHOICE is the NEAREST: how many PICTURES came or went.");
        edges.due("a new one", 0, new Book().mend());
        Book b = oneChild(14, 100);
        edges.due("nothing need come", 0, b.mend());
        edges.due("though there is more worth", 0, b.count(2));
        b.choose(0x1234);
        edges.due("it fits", 0, b.mend());
        edges.due("it is as it was", 0x1234, b.count(2));
    }

    private static void mendAllFourteen() {
        edges.words(16, "how many PICTURES came or went");
        Book b = oneChild(14, 100);
        for (int bound = 0; bound <= 14; bound++) {
            bounded(b, bound, 14).choose(0);
            edges.due("LOW " + bound, bound, b.mend());
            edges.due("the least come", (1 << bound) - 1, b.count(2));
            bounded(b, 0, bound).choose(16383);
            edges.due("HIGH " + bound, 14 - bound, b.mend());
            edges.due("the least stay", (1 << bound) - 1, b.count(2));
        }
        Book swap = Book.withChildren(3).show(1, 0, 1).show(1, 1, 2).show(1, 2);
        bounded(swap, 1, 1).choose(2);
        edges.due("one goes, two come", 3, swap.mend());
        edges.due("so", 5, swap.count(2));
    }

    private static void mendOfEqualNearness() {
        edges.words(Edges.TERMS, "that are in just one of it and THE CHOICE; of equal ones as the BEST");
        Book worth = Book.withChildren(1).show(5, 0).show(9, 0).show(9, 0);
        bounded(worth, 1, 1);
        edges.due("one comes", 1, worth.mend());
        edges.due("of most worth, then the least", 2, worth.count(2));
        Book near = Book.withChildren(2).show(1, 0).show(1, 1).show(50, 0).show(50, 1);
        bounded(near, 1, 1).choose(1);
        edges.due("the nearest is before the worth", 1, near.mend());
        edges.due("of the nearest that of most worth", 9, near.count(2));
        Book fewest = Book.withChildren(3).show(10, 0).show(10, 1).show(10, 2).show(30, 0, 1, 2);
        bounded(fewest, 1, 1).choose(1 | 2 | 8);
        edges.due("two go, or one comes and one goes", 2, fewest.mend());
        edges.due("of equal worth the fewest, though of the greater number", 8, fewest.count(2));
        Book more = Book.withChildren(3).show(10, 0).show(10, 1).show(11, 2).show(30, 0, 1, 2);
        bounded(more, 1, 1).choose(1 | 2 | 8);
        edges.due("two go, or one comes and one goes", 2, more.mend());
        edges.due("of more worth", 7, more.count(2));
        Book bits = Book.withChildren(4).show(10, 0, 1).show(10, 0, 2).show(10, 1, 3).show(10, 2, 3);
        bounded(bits, 1, 1);
        edges.due("two come", 2, bits.mend());
        edges.due("6 is less than 9", 6, bits.count(2));
        Book many = twelveOrTwo(6, 5);
        edges.due("two choices fit", 2, many.choices());
        edges.due("two come, though twelve have more worth", 2, many.mend());
        edges.due("the two", 12288, many.count(2));
        many.choose(4095 & ~1);
        edges.due("one comes", 1, many.mend());
        edges.due("the twelve", 4095, many.count(2));
        bounded(bits, 1, 1).choose(9);
        edges.due("what fits is nearer than any", 0, bits.mend());
        edges.due("though of the greater number", 9, bits.count(2));
    }

    private static void mendWhatIsNotGood() {
        edges.words(16, "how many PICTURES came or went");
        Book b = Book.ofSize(1, 14);
        b.choose(16383);
        edges.due("none is good: all go", 14, b.mend());
        edges.due("none is left", 0, b.count(2));
        Book some = oneChild(2, 5).show(90);
        some.choose(7);
        edges.due("the one that is not good goes", 1, some.mend());
        edges.due("so", 3, some.count(2));
        bounded(some, 0, 1).choose(6);
        edges.due("again", 1, some.mend());
        edges.due("so", 2, some.count(2));
    }

    private static void mendTakesPagesAway() {
        edges.words(16, "THE CHOICE is the NEAREST");
        Book b = oneChild(3, 7);
        b.choose(7);
        b.lay();
        bounded(b, 0, 2);
        edges.due("one goes", 1, b.mend());
        edges.due("nothing laid", 0, b.count(4));
        edges.due("page 0", NONE, b.page(0));
        edges.due("its page", NONE, b.told(0, 10));
        edges.due("drop", 0, b.drop(0));
    }

    private static void mendWhereNoneFits() {
        edges.words(16, "NONE, as best().");
        edges.refused("LOW is more than there are", EdgesOfChoiceTest::noneFits, Book::mend);
        edges.refused("LOW above HIGH", () -> bounded(Book.small(), 1, 0), Book::mend);
        edges.refused("of a full one", () -> bounded(Book.full(), 2, 14), Book::mend);
        Supplier<Book> both = () -> bounded(Book.withChildren(3).show(9, 0, 1).show(9, 0, 2), 1, 1);
        edges.refused("one too often or another too seldom", both, Book::mend);
    }

    // ---- promise 17

    private static void choicesOfNone() {
        edges.words(17, "How many CHOICES FIT.");
        edges.due("a new one: the empty one", 1, new Book().choices());
        edges.due("no good picture", 1, bounded(Book.ofSize(1, 14), 14, 0).choices());
        edges.keeps("it changes nothing", 1, () -> bounded(Book.small(), 1, 1), Book::choices);
    }

    private static void choicesAtTheBounds() {
        edges.words(17, "How many CHOICES FIT.");
        for (int k = 0; k <= 14; k++) {
            edges.due("just " + k + " of 14", binomial(14, k), bounded(oneChild(14, 1), k, k).choices());
        }
        edges.due("all sets", 16384, oneChild(14, 1).choices());
        edges.due("all but the empty one", 16383, bounded(oneChild(14, 1), 1, 14).choices());
        edges.due("all but the full one", 16383, bounded(oneChild(14, 1), 0, 13).choices());
        edges.due("LOW 14 of 13", 0, bounded(oneChild(13, 1), 14, 14).choices());
        edges.due("of all children", 16384, Book.full().choices());
        edges.due("each child just once", 1, bounded(Book.full(), 1, 1).choices());
    }

    private static void choicesLowAboveHigh() {
        edges.words(6, "(LOW may be above HIGH.)");
        edges.due("one child", 0, bounded(oneChild(14, 1), 8, 7).choices());
        edges.due("the most above the least", 0, bounded(oneChild(14, 1), 14, 0).choices());
        edges.due("best", NONE, bounded(oneChild(14, 1), 14, 0).best());
        edges.due("mend", NONE, bounded(oneChild(14, 1), 1, 0).mend());
    }

    // ---- promise 18

    private static void lackingOfNone() {
        edges.words(18, "NONE if there is none.");
        edges.due("no child", NONE, bounded(new Book(), 14, 14).lacking());
        edges.due("LOW 0", NONE, Book.withChildren(16).lacking());
        edges.due("LOW 1 without pictures", 0, bounded(Book.withChildren(16), 1, 14).lacking());
        edges.keeps("it changes nothing", NONE, Book::small, Book::lacking);
        edges.keeps("it changes nothing", 0, () -> bounded(Book.small(), 2, 1), Book::lacking);
    }

    private static void lackingAtTheBounds() {
        edges.words(18, "SEEN in fewer GOOD PICTURES in all than LOW");
        for (int pictures = 0; pictures <= 14; pictures++) {
            Book b = oneChild(pictures, 1);
            for (int low = 0; low <= 14; low++) {
                b.set(LOW, low);
                edges.due(pictures + " pictures, LOW " + low, pictures < low ? 0 : NONE, b.lacking());
            }
        }
    }

    private static void lackingLeast() {
        edges.words(18, "The least CHILD");
        Book b = Book.withChildren(16).show(1, 0, 1, 2, 3, 4, 5, 6, 7).show(1, 8, 9, 10, 11, 12, 13, 14);
        b.set(LOW, 1);
        edges.due("the last one alone", 15, b.lacking());
        b.consent(7, 0);
        edges.due("two: the least", 7, b.lacking());
        b.consent(0, 6);
        edges.due("three: the least", 0, b.lacking());
        b.set(LOW, 0);
        edges.due("LOW 0", NONE, b.lacking());
    }

    private static void lackingWhatCounts() {
        edges.words(18, "GOOD PICTURES in all");
        Book b = Book.withChildren(2).show(1, 0).show(1, 0);
        b.set(LOW, 2);
        edges.due("child 1 is in none, and is lacking", 1, b.lacking());
        Book one = oneChild(2, 1);
        bounded(one, 2, 0);
        edges.due("neither the choice nor HIGH matters", NONE, one.lacking());
        one.child(0);
        one.face(1, 1, 0, 0, 0);
        one.consent(1, 0);
        edges.due("one that is not good does not count", 0, one.lacking());
    }
}
