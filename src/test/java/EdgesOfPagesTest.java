import java.io.IOException;
import java.util.function.Supplier;

/** The edges that the document names for the pages: promises 19 to 24. */
public final class EdgesOfPagesTest {
    private static final int NONE = Book.NONE;
    private static final int LAST = 3;
    private static Edges edges;

    public static void main(String[] args) throws IOException {
        edges = new Edges("EdgesOfPagesTest");
        fewestOfNone();
        twelvePoints();
        fewestOfMany();
        fewestNotByTheFirstThatFits();
        layNone();
        layUpToLast();
        layMoreThanLast();
        layLeastNumberFirst();
        layMostPoints();
        layLeastBits();
        layAgain();
        pagesOutside();
        pagesOfNothingLaid();
        pointsLeft();
        lateNoSuchPicture();
        lateOfTheChoice();
        lateNothingLaid();
        lateMoreThanLast();
        lateFourteenthPage();
        lateWithLastBelowThePages();
        lateOnOnePage();
        lateJustFull();
        latePointsWouldDo();
        lateFewestPages();
        lateLeastOfEqualPages();
        lateInTheirOrder();
        lateNotGood();
        dropFromPage();
        dropToEmptyPages();
        dropRefused();
        edges.end(19, 24);
    }

    private static Book chosen(Book b) {
        b.choose((1 << b.count(1)) - 1);
        return b;
    }

    private static Book withLast(Book b, int last) {
        b.set(LAST, last);
        return b;
    }

    // ---- promise 19

    private static void fewestOfNone() {
        edges.words(19, "(0 without PICTURES)");
        edges.due("a new one", 0, new Book().fewest());
        edges.due("none chosen", 0, Book.ofSize(12, 14).fewest());
        Book b = Book.laid(12, 12);
        b.choose(0);
        edges.due("none any more", 0, b.fewest());
        Book dropped = Book.laid(12, 12);
        dropped.drop(0);
        edges.due("one was dropped", 1, dropped.fewest());
        dropped.drop(1);
        edges.due("both were dropped", 0, dropped.fewest());
        edges.due("their pages are there still", 2, dropped.count(4));
    }

    private static void twelvePoints() {
        edges.words(Edges.TERMS, "those of a PAGE having 12 points at most in all");
        for (int size = 1; size <= 11; size++) {
            edges.due(size + " and " + (12 - size), 1, chosen(Book.ofSizes(size, 12 - size)).fewest());
            edges.due(size + " and " + (13 - size), 2, chosen(Book.ofSizes(size, 13 - size)).fewest());
        }
        edges.due("12", 1, chosen(Book.ofSizes(12)).fewest());
        edges.due("1", 1, chosen(Book.ofSizes(1)).fewest());
        edges.due("12 of 1", 1, chosen(Book.ofSize(1, 12)).fewest());
        edges.due("13 of 1", 2, chosen(Book.ofSize(1, 13)).fewest());
        edges.due("14 of 1", 2, chosen(Book.ofSize(1, 14)).fewest());
    }

    private static void fewestOfMany() {
        edges.words(19, "The fewest PAGES on which THE CHOICE can be");
        int[] ofFourteen = {2, 3, 4, 5, 7, 7, 14, 14, 14, 14, 14, 14};
        for (int size = 1; size <= 12; size++) {
            edges.due("14 of " + size, ofFourteen[size - 1], chosen(Book.ofSize(size, 14)).fewest());
        }
        edges.due("LAST does not matter", 14, withLast(chosen(Book.ofSize(12, 14)), 1).fewest());
        edges.keeps("it changes nothing", 2, Book::small, Book::fewest);
        edges.due("not good ones count", 1, chosen(Book.ofSizes(3)).fewest());
    }

    private static void fewestNotByTheFirstThatFits() {
        edges.words(19, "The fewest PAGES on which THE CHOICE can be");
        edges.due("each where it first fits would need three", 2, chosen(Book.ofSizes(5, 5, 7, 7)).fewest());
        edges.due("the greatest first would need three", 2, chosen(Book.ofSizes(6, 4, 4, 3, 3, 4)).fewest());
        edges.due("three full ones", 3, chosen(Book.ofSizes(5, 5, 2, 7, 7, 10)).fewest());
        edges.due("a point more", 4, chosen(Book.ofSizes(5, 5, 2, 7, 7, 10, 1)).fewest());
    }

    // ---- promise 20

    private static void layNone() {
        edges.words(20, "THE CHOICE is LAID: how many PAGES.");
        edges.keeps("a new one", 0, Book::new, Book::lay);
        edges.keeps("none chosen", 0, () -> Book.ofSizes(1, 12), Book::lay);
        Book b = Book.laid(12, 12);
        b.drop(0);
        b.drop(1);
        edges.due("all were dropped", 0, b.lay());
        edges.pages("so there is no page", b);
        edges.due("late", NONE, b.late(0));
    }

    private static void layUpToLast() {
        edges.words(20, "NONE: more than LAST.");
        for (int n = 1; n <= 14; n++) {
            for (int last = 1; last <= 14; last++) {
                Book b = withLast(chosen(Book.ofSize(12, n)), last);
                edges.due(n + " pages, LAST " + last, n > last ? NONE : n, b.lay());
                edges.due(n + " pages, LAST " + last + ": laid", n > last ? 0 : n, b.count(4));
                edges.due(n + " pages, LAST " + last + ": the last", n > last ? NONE : 1 << n - 1, b.page(n - 1));
                edges.due(n + " pages, LAST " + last + ": behind it", NONE, b.page(n));
            }
        }
        edges.due("none needs no page", 0, withLast(Book.ofSizes(12), 1).lay());
    }

    private static void layMoreThanLast() {
        edges.words(20, "NONE: more than LAST.");
        edges.refused("nothing was laid", () -> withLast(chosen(Book.ofSizes(12, 1)), 1), Book::lay);
        edges.refused("it was laid", () -> withLast(Book.laid(12, 12, 1), 2), Book::lay);
        edges.refused("14 pages", () -> withLast(Book.full(), 13), Book::lay);
        Supplier<Book> moved = () -> {
            Book b = Book.laid(8, 8, 8);
            b.drop(1);
            b.drop(0);
            b.late(0);
            return withLast(b, 1);
        };
        edges.due("what was laid otherwise", 2, moved.get().fewest());
        edges.refused("what was laid otherwise", moved, Book::lay);
    }

    private static void layLeastNumberFirst() {
        edges.words(Edges.TERMS, "PAGE by PAGE, each has the least number of those left");
        Book b = Book.laid(1, 12, 12, 1);
        edges.pages("0 is on the first though it is small", b, 9, 2, 4);
        Book some = Book.ofSizes(12, 3, 12, 9, 12);
        some.choose(2 | 4 | 8 | 16);
        edges.due("without 0", 3, some.lay());
        edges.pages("1 is the least then", some, 10, 4, 16);
        Book twelve = chosen(Book.ofSize(12, 14));
        twelve.lay();
        for (int p = 0; p < 14; p++) {
            edges.due("picture " + p, p, twelve.told(p, 10));
        }
    }

    private static void layMostPoints() {
        edges.words(Edges.TERMS, "with which the rest can still be on the fewest PAGES, of the most points");
        edges.pages("the fullest", Book.laid(4, 1, 8, 7), 5, 10);
        edges.pages("not full, that the rest can be on the fewest", Book.laid(5, 5, 2, 7, 7, 10), 9, 18, 36);
        edges.pages("less points, that the rest can be on two", Book.laid(2, 5, 5, 7, 7, 9), 33, 10, 20);
        edges.pages("as many points as there are", Book.laid(11, 12, 2), 1, 2, 4);
        edges.pages("alone on the only page", Book.laid(1), 1);
        edges.pages("the first 12 of 14", chosenAndLaid(Book.ofSize(1, 14)), 4095, 12288);
    }

    private static Book chosenAndLaid(Book b) {
        chosen(b).lay();
        return b;
    }

    private static void layLeastBits() {
        edges.words(Edges.TERMS, "of equal ones the least number as bits");
        edges.pages("of two sixes the first", Book.laid(6, 6, 6), 3, 4);
        edges.pages("of three ways to fill it", Book.laid(6, 6, 6, 3, 3), 3, 28);
        edges.pages("three pictures of less numbers before one", Book.laid(6, 2, 4, 6, 12), 7, 8, 16);
        edges.pages("one before two of greater numbers", Book.laid(6, 6, 3, 3, 12), 3, 12, 16);
        edges.pages("7 is less than 9", Book.laid(8, 1, 3, 4, 7), 7, 24);
        edges.pages("5 is less than 11", Book.laid(6, 5, 6, 1, 5), 5, 26);
    }

    private static void layAgain() {
        edges.words(20, "THE CHOICE is LAID");
        Book b = Book.laid(8, 8, 4, 4);
        edges.pages("first", b, 5, 10);
        edges.due("again", 2, b.lay());
        edges.pages("again", b, 5, 10);
        b.drop(0);
        b.drop(1);
        edges.pages("two dropped", b, 4, 8);
        edges.due("laid anew on fewer", 1, b.lay());
        edges.pages("laid anew on fewer", b, 12);
        edges.due("the choice is as it was", 12, b.count(2));
    }

    // ---- promises 21 and 22

    private static void pagesOutside() {
        edges.words(21, "NONE for no such PAGE.");
        for (int page : Edges.outside(0, 1)) {
            edges.refused("page(" + page + ")", Book::small, b -> b.page(page));
        }
        for (int page : Edges.outside(0, 13)) {
            edges.refused("page(" + page + ") of 14", Book::full, b -> b.page(page));
        }
        edges.keeps("the last of 14", 8192, Book::full, b -> b.page(13));
        edges.words(22, "NONE for no such.");
        for (int page : Edges.outside(0, 1)) {
            edges.refused("left(" + page + ")", Book::small, b -> b.left(page));
        }
        for (int page : Edges.outside(0, 13)) {
            edges.refused("left(" + page + ") of 14", Book::full, b -> b.left(page));
        }
        edges.keeps("the last of 14", 0, Book::full, b -> b.left(13));
    }

    private static void pagesOfNothingLaid() {
        edges.words(21, "NONE for no such PAGE.");
        for (int page = 0; page < 14; page++) {
            int n = page;
            edges.refused("chosen, not laid", () -> chosen(Book.ofSizes(1, 12)), b -> b.page(n));
            edges.refused("chosen, not laid", () -> chosen(Book.ofSizes(1, 12)), b -> b.left(n));
        }
        Book b = Book.laid(12, 12);
        b.choose(1);
        edges.due("not laid any more", NONE, b.page(0));
        b.lay();
        edges.due("fewer pages than before: 0", 1, b.page(0));
        edges.due("fewer pages than before: 1", NONE, b.page(1));
        edges.due("fewer pages than before: 1", NONE, b.left(1));
    }

    private static void pointsLeft() {
        edges.words(22, "Points that are left on a PAGE");
        for (int size = 1; size <= 12; size++) {
            edges.due("of one of " + size, 12 - size, Book.laid(size).left(0));
        }
        Book b = Book.laid(7, 5, 1);
        edges.due("full by two", 0, b.left(0));
        edges.due("the other", 11, b.left(1));
        b.drop(0);
        edges.due("one went", 7, b.left(0));
        b.drop(1);
        edges.due("empty", 12, b.left(0));
    }

    // ---- promise 23

    private static void lateNoSuchPicture() {
        edges.words(23, "Refused: no such PICTURE");
        for (int picture : Edges.outside(0, 3)) {
            edges.refused("late(" + picture + ")", Book::small, b -> b.late(picture));
        }
        for (int picture : Edges.outside(0, 13)) {
            edges.refused("late(" + picture + ") of 14", Book::full, b -> b.late(picture));
            edges.refused("late(" + picture + "), an empty page", EdgesOfPagesTest::fullButOne, b -> b.late(picture));
        }
    }

    private static Book fullButOne() {
        Book b = Book.full();
        b.drop(5);
        return b;
    }

    private static void lateOfTheChoice() {
        edges.words(23, "it is of THE CHOICE");
        for (int picture = 0; picture < 3; picture++) {
            int p = picture;
            edges.refused("late(" + p + ")", Book::small, b -> b.late(p));
        }
        edges.refused("the last of 14", Book::full, b -> b.late(13));
        Book b = Book.laid(4, 4);
        b.drop(0);
        edges.due("dropped, so not of it", 1, b.late(0));
        edges.due("of it again", NONE, b.late(0));
        edges.due("the choice", 3, b.count(2));
    }

    private static void lateNothingLaid() {
        edges.words(23, "nothing is LAID");
        edges.refused("none chosen", () -> Book.ofSizes(1, 12), b -> b.late(0));
        edges.refused("chosen, not laid", () -> {
            Book b = Book.ofSizes(1, 1);
            b.choose(1);
            return b;
        }, b -> b.late(1));
        edges.refused("none was laid", () -> {
            Book b = Book.ofSizes(1);
            b.lay();
            return b;
        }, b -> b.late(0));
        edges.refused("chosen anew", () -> {
            Book b = Book.laid(1, 1);
            b.choose(1);
            return b;
        }, b -> b.late(1));
    }

    private static Book oneLaid(int... sizes) {
        Book b = Book.ofSizes(sizes);
        b.choose(1);
        b.lay();
        return b;
    }

    private static void lateMoreThanLast() {
        edges.words(23, "or it would be more than LAST");
        edges.refused("LAST 1", () -> withLast(oneLaid(12, 1), 1), b -> b.late(1));
        edges.refused("a point too many", () -> withLast(oneLaid(7, 6), 1), b -> b.late(1));
        edges.due("just full, LAST 1", 1, withLast(oneLaid(7, 5), 1).late(1));
        Book b = withLast(oneLaid(7, 6), 2);
        edges.due("just LAST", 1, b.late(1));
        edges.pages("just LAST", b, 1, 2);
        for (int pages = 1; pages <= 13; pages++) {
            int n = pages;
            Supplier<Book> many = () -> {
                Book c = Book.ofSize(12, 14);
                c.choose((1 << n) - 1);
                c.lay();
                return c;
            };
            edges.refused(n + " pages, LAST " + n, () -> withLast(many.get(), n), c -> c.late(13));
            Book c = withLast(many.get(), n + 1);
            edges.due(n + " pages, LAST a page more", 1, c.late(13));
            edges.due("pages", n + 1, c.count(4));
            edges.due("the last one", 8192, c.page(n));
        }
    }

    private static void lateFourteenthPage() {
        edges.words(23, "it has a PAGE more, the last one");
        Book b = oneLaid(12, 12, 12, 12, 12, 12, 12, 12, 12, 12, 12, 12, 12, 12);
        for (int p = 13; p >= 1; p--) {
            edges.due("late(" + p + ")", 1, b.late(p));
            edges.due("its page", 14 - p, b.told(p, 10));
        }
        edges.due("pages", 14, b.count(4));
        edges.due("the choice", 16383, b.count(2));
        b.drop(0);
        edges.due("on the page that is empty", 1, b.late(0));
        edges.due("no 15th page", 14, b.count(4));
    }

    private static void lateWithLastBelowThePages() {
        edges.words(23, "if there is none, it has a PAGE more");
        Supplier<Book> below = () -> {
            Book b = Book.ofSizes(8, 8, 4, 12);
            b.choose(3);
            b.lay();
            return withLast(b, 1);
        };
        edges.refused("a page more is needed", below, b -> b.late(3));
        Book b = below.get();
        edges.due("none is needed", 1, b.late(2));
        edges.pages("so it comes in", b, 5, 2);
    }

    private static void lateOnOnePage() {
        edges.words(23, "of equal ones the least number as bits");
        Book b = Book.ofSizes(8, 8, 8, 4, 4, 4, 1);
        b.choose(7);
        b.lay();
        for (int p = 3; p <= 5; p++) {
            edges.due("late(" + p + ")", 1, b.late(p));
            edges.due("the first page with room", p - 3, b.told(p, 10));
        }
        edges.due("no room anywhere", 1, b.late(6));
        edges.pages("all full, and a page more", b, 9, 18, 36, 64);
    }

    private static void lateJustFull() {
        edges.words(23, "whose PICTURES with it can be on as many PAGES");
        for (int size = 1; size <= 11; size++) {
            Book full = oneLaid(size, 12 - size);
            edges.due(size + ": 12 points", 1, full.late(1));
            edges.pages(size + ": 12 points", full, 3);
            Book more = oneLaid(size, 13 - size);
            edges.due(size + ": 13 points", 1, more.late(1));
            edges.pages(size + ": 13 points", more, 1, 2);
        }
    }

    private static void latePointsWouldDo() {
        edges.words(23, "if there is none, it has a PAGE more, the last one: how many PAGES were changed.");
        Book b = Book.ofSizes(7, 7, 8);
        b.choose(3);
        b.lay();
        edges.due("the points would do, but not the sizes", 1, b.late(2));
        edges.pages("a page more", b, 1, 2, 4);
        Supplier<Book> sevens = () -> {
            Book c = Book.ofSizes(7, 7, 7, 7);
            c.choose(7);
            c.lay();
            return withLast(c, 3);
        };
        edges.refused("the points would do, but not the sizes", sevens, c -> c.late(3));
    }

    private static void lateFewestPages() {
        edges.words(23, "LAID with the fewest PAGES changed");
        Book b = Book.ofSizes(5, 5, 2, 7, 7, 10);
        b.choose(7);
        b.lay();
        b.late(3);
        b.late(4);
        edges.pages("so far", b, 7, 8, 16);
        edges.due("all pages are changed rather than one more laid", 3, b.late(5));
        edges.pages("no page more", b, 9, 18, 36);
        Book one = Book.ofSizes(6, 5, 7, 4, 1);
        one.choose(15);
        one.lay();
        edges.pages("11 points each", one, 3, 12);
        edges.due("one page, though both could be laid better", 1, one.late(4));
        edges.pages("one page", one, 19, 12);
    }

    /** Four pages of two pictures each, filled from the last one, so that each is the first with room. */
    private static Book fourPages() {
        Book b = Book.ofSizes(4, 6, 4, 3, 5, 4, 2, 3, 8, 12, 12, 12, 12);
        b.choose(0x1E00);
        b.lay();
        for (int page = 3; page >= 0; page--) {
            b.drop(9 + page);
            b.late(2 * page);
            b.late(2 * page + 1);
        }
        return b;
    }

    private static void lateLeastOfEqualPages() {
        edges.words(23, "the one with the fewest; of equal ones the least number as bits");
        Book b = fourPages();
        edges.pages("so far", b, 3, 12, 48, 192);
        edges.due("two pages", 2, b.late(8));
        edges.pages("pages 1 and 2 (6), not 0 and 3 (9)", b, 3, 28, 288, 192);
    }

    private static void lateInTheirOrder() {
        edges.words(23, "these are LAID anew, in the order of the PAGES' numbers");
        Book b = Book.ofSizes(6, 4, 2, 12, 6, 4, 4);
        b.choose(7);
        b.lay();
        b.late(3);
        b.late(4);
        b.late(5);
        b.drop(2);
        edges.pages("so far", b, 3, 8, 48);
        edges.due("pages 0 and 2", 2, b.late(6));
        edges.pages("page 1 stays as it is", b, 17, 8, 98);
        Book turned = Book.ofSizes(12, 7, 5, 7, 5);
        turned.choose(1);
        turned.lay();
        turned.late(4);
        turned.late(3);
        edges.pages("the least number is not on the first of them", turned, 1, 24);
        turned.late(1);
        turned.drop(3);
        edges.pages("room on two", turned, 1, 16, 2);
        edges.due("one page has room", 1, turned.late(3));
        edges.pages("it", turned, 1, 24, 2);
        edges.due("and the other", 1, turned.late(2));
        edges.pages("both full", turned, 1, 24, 6);
    }

    private static void lateNotGood() {
        edges.words(23, "A PICTURE that is not of THE CHOICE comes into it");
        Book b = Book.small();
        edges.due("not good, a page more", 1, b.late(3));
        edges.due("it is of the choice", 15, b.count(2));
        edges.due("its worth too", 100, b.count(3));
        edges.due("its page", 2, b.told(3, 10));
        edges.due("so the choice is wrong", 1, b.wrong());
    }

    // ---- promise 24

    private static void dropFromPage() {
        edges.words(24, "A PICTURE goes from THE CHOICE and its PAGE");
        Book b = Book.full();
        for (int p = 0; p < 14; p++) {
            edges.due("drop(" + p + ")", 1, b.drop(p));
            edges.due("the choice", 16383 & -1 << p + 1, b.count(2));
            edges.due("page " + p, 0, b.page(p));
            edges.due("of picture " + p, NONE, b.told(p, 10));
            edges.due("pages", 14, b.count(4));
        }
        edges.due("its worth", 0, b.count(3));
        Book two = Book.laid(6, 6);
        two.drop(1);
        edges.pages("the other one stays", two, 1);
    }

    private static void dropToEmptyPages() {
        edges.words(24, "(which may be empty then)");
        Book b = Book.laid(12, 12);
        b.drop(1);
        b.drop(0);
        edges.pages("both empty", b, 0, 0);
        edges.due("points", 12, b.left(1));
        edges.due("they are laid, so one may come late", 1, b.late(1));
        edges.pages("on the least", b, 2, 0);
    }

    private static void dropRefused() {
        edges.words(24, "Refused: it is not LAID.");
        for (int picture : Edges.outside(0, 2)) {
            edges.keeps("drop(" + picture + ")", 0, Book::small, b -> b.drop(picture));
        }
        for (int picture : Edges.outside(0, 13)) {
            edges.keeps("drop(" + picture + ") of 14", 0, Book::full, b -> b.drop(picture));
        }
        edges.keeps("not of the choice", 0, Book::small, b -> b.drop(3));
        edges.keeps("chosen, not laid", 0, () -> chosen(Book.ofSizes(1, 12)), b -> b.drop(0));
        edges.keeps("chosen anew", 0, () -> chosen(Book.laid(1, 12)), b -> b.drop(0));
        edges.keeps("dropped", 0, EdgesOfPagesTest::fullButOne, b -> b.drop(5));
        edges.keeps("a picture told since", 0, () -> {
            Book b = Book.small();
            b.picture(0, 0, 1);
            return b;
        }, b -> b.drop(4));
    }
}
