import java.io.IOException;
import java.util.function.Supplier;

/** The edges that the document names for what is asked of pictures and children: promises 7 to 12. */
public final class EdgesOfAskingTest {
    private static final int NONE = Book.NONE;
    private static Edges edges;

    public static void main(String[] args) throws IOException {
        edges = new Edges("EdgesOfAskingTest");
        countsOfFullBook();
        countsChangeNothing();
        anotherCount();
        worthOfNotGoodOnes();
        noFace();
        nobodyMay();
        cutOverTheEdges();
        cutIsLeastBox();
        touchingEdges();
        touchingWideCut();
        touchingPoints();
        aroundAndInside();
        betweenFaces();
        toldOfNotGood();
        pageOfPicture();
        toldThrows();
        toldChangesNothing();
        rowsBySpan();
        rowsFromTheirTop();
        rowsByXThenChild();
        rowsOfSeenOnly();
        namesOutside();
        seenTimes();
        seenRefused();
        proofsInOrder();
        proofsOutside();
        showsTimes();
        showsRefused();
        edges.end(7, 12);
    }

    // ---- promise 7

    private static void countsOfFullBook() {
        edges.words(7, "What 0: CHILDREN, 1: PICTURES, 2: THE CHOICE, as bits, 3: WORTH of it, 4: PAGES that are LAID");
        int[] want = {16, 14, 16383, 1400, 14, 16383, 16383};
        for (int what = 0; what <= 6; what++) {
            edges.due("full: count(" + what + ")", want[what], Book.full().count(what));
        }
        Book b = Book.withChildren(16).show(100, 0, 1, 2, 3, 4, 5, 6, 7).show(100, 8, 9, 10, 11, 12, 13, 14, 15);
        edges.due("all 16 in good ones", 65535, b.count(6));
    }

    private static void countsChangeNothing() {
        edges.words(7, "5: GOOD PICTURES, as bits, 6: CHILDREN that are in a GOOD PICTURE's SEEN, as bits.");
        int[] want = {3, 4, 7, 60, 2, 7, 7};
        for (int what = 0; what <= 6; what++) {
            int w = what;
            edges.keeps("count(" + w + ")", want[w], Book::small, b -> b.count(w));
        }
    }

    private static void anotherCount() {
        edges.words(7, "NONE for another what.");
        for (int what : Edges.outside(0, 6)) {
            edges.refused("count(" + what + ")", Book::small, b -> b.count(what));
        }
    }

    private static void worthOfNotGoodOnes() {
        edges.words(7, "2: THE CHOICE, as bits, 3: WORTH of it");
        Book b = Book.ofSizes(1, 1);
        b.choose(3);
        edges.due("no picture is good", 0, b.count(5));
        edges.due("their worth all the same", 2, b.count(3));
        b.choose(0);
        edges.due("of none", 0, b.count(3));
    }

    // ---- promise 8: the cut, and whether it is good

    private static void noFace() {
        edges.words(8, "(NONE without a FACE that MAY be seen)");
        int[] want = {0, 1, 5, 0, 0, 0, NONE, NONE, NONE, NONE, NONE};
        for (int what = 0; what <= 10; what++) {
            edges.due("told(0, " + what + ")", want[what], Book.ofSizes(5).told(0, what));
        }
        edges.due("no name", NONE, Book.ofSizes(5).name(0, 0));
    }

    private static void nobodyMay() {
        edges.words(Edges.TERMS, "It is GOOD, if there is one such FACE at least");
        Book b = Book.withChildren(2);
        b.picture(1, 1, 1);
        b.consent(0, 5);
        b.consent(1, 5);
        b.face(0, 0, 10, 10, 2);
        b.face(0, 1, 90, 90, 2);
        edges.due("nobody may: good", 0, b.told(0, 4));
        edges.due("nobody may: seen", 0, b.told(0, 5));
        for (int side = 6; side <= 9; side++) {
            edges.due("nobody may: side " + side, NONE, b.told(0, side));
        }
        edges.due("nobody may: faces", 2, b.told(0, 3));
        b.consent(1, 2);
        edges.due("just one may: good", 1, b.told(0, 4));
        edges.due("just one may: seen", 2, b.told(0, 5));
        edges.due("just one may: least x", 88, b.told(0, 6));
        edges.due("just one may: greatest y", 92, b.told(0, 9));
    }

    private static void cut(String what, Book b, int... want) {
        for (int side = 0; side < 4; side++) {
            edges.due(what + ": side " + (6 + side), want[side], b.told(0, 6 + side));
        }
    }

    private static void cutOverTheEdges() {
        edges.words(Edges.TERMS, "(x - r .. x + r, y - r .. y + r)");
        Book b = Book.withChildren(2);
        b.picture(0, 1, 1);
        b.face(0, 0, 0, 0, 20);
        cut("at the least corner", b, -20, -20, 20, 20);
        b.face(0, 1, 99, 99, 20);
        cut("with one at the greatest corner", b, -20, -20, 119, 119);
        Book point = Book.withChildren(1);
        point.picture(0, 1, 1);
        point.face(0, 0, 99, 0, 0);
        cut("a point", point, 99, 0, 99, 0);
        edges.due("a point is good", 1, point.told(0, 4));
        Book minusOne = Book.withChildren(1);
        minusOne.picture(0, 1, 1);
        minusOne.face(0, 0, 2, 3, 3);
        cut("an edge at -1", minusOne, -1, 0, 5, 6);
    }

    private static void cutIsLeastBox() {
        edges.words(Edges.TERMS, "the least box with all of the FACES");
        Book b = Book.withChildren(4);
        b.picture(0, 1, 1);
        b.face(0, 0, 50, 50, 0);
        b.face(0, 1, 40, 60, 5);
        cut("of two", b, 35, 50, 50, 65);
        b.face(0, 2, 45, 55, 3);
        cut("one within changes nothing", b, 35, 50, 50, 65);
        b.face(0, 3, 51, 49, 0);
        cut("one point out at two sides", b, 35, 49, 51, 65);
        b.consent(3, 6);
        cut("without one that may not", b, 35, 50, 50, 65);
        cut("each side of another face, told in one order", sides(0, 1, 2, 3), 5, 11, 93, 87);
        cut("in another order", sides(3, 2, 1, 0), 5, 11, 93, 87);
        cut("and another", sides(2, 0, 3, 1), 5, 11, 93, 87);
    }

    /** Four faces, each of which makes one side of the cut, told in this order. */
    private static Book sides(int... order) {
        int[][] faces = {{8, 50, 3}, {40, 13, 2}, {89, 30, 4}, {60, 82, 5}};
        Book b = Book.withChildren(4);
        b.picture(0, 1, 1);
        for (int c : order) {
            b.face(0, c, faces[c][0], faces[c][1], faces[c][2]);
        }
        return b;
    }

    /** Child 0's face is the cut 40 .. 60 both ways; child 1, who may not be seen, is at x, y. */
    private static Book other(int x, int y, int r) {
        Book b = Book.withChildren(2);
        b.picture(0, 1, 1);
        b.face(0, 0, 50, 50, 10);
        b.face(0, 1, x, y, r);
        b.consent(1, 6);
        return b;
    }

    private static void good(String what, int want, Book b) {
        edges.due(what + ": good", want, b.told(0, 4));
        edges.due(what + ": seen", want, b.told(0, 5));
        edges.due(what + ": good ones", want, b.count(5));
        edges.due(what + ": name", want == 1 ? 0 : NONE, b.name(0, 0));
    }

    private static void touchingEdges() {
        edges.words(Edges.TERMS, "no FACE of another CHILD touches the CUT (has a point in it, edges too)");
        for (int r : new int[] {0, 1, 7, 20}) {
            for (int along = 40 - r; along <= 60 + r; along += 20 + 2 * r) {
                good("left edge", 0, other(40 - r, along, r));
                good("left of the edge", 1, other(39 - r, along, r));
                good("right edge", 0, other(60 + r, along, r));
                good("right of the edge", 1, other(61 + r, along, r));
                good("upper edge", 0, other(along, 40 - r, r));
                good("above the edge", 1, other(along, 39 - r, r));
                good("lower edge", 0, other(along, 60 + r, r));
                good("below the edge", 1, other(along, 61 + r, r));
            }
            good("past a corner both ways", 1, other(61 + r, 61 + r, r));
            good("past another corner both ways", 1, other(39 - r, 61 + r, r));
        }
    }

    /** The cut is 20 .. 40 by 70 .. 74; child 2, who may not be seen, is told first, and is a point. */
    private static Book besideWideCut(int x, int y) {
        Book b = Book.withChildren(3);
        b.consent(2, 6);
        b.picture(0, 1, 1);
        b.face(0, 2, x, y, 0);
        b.face(0, 0, 22, 72, 2);
        b.face(0, 1, 38, 72, 2);
        return b;
    }

    private static void touchingWideCut() {
        edges.words(Edges.TERMS, "no FACE of another CHILD touches the CUT (has a point in it, edges too)");
        for (int x = 18; x <= 42; x++) {
            for (int y = 68; y <= 76; y++) {
                boolean touches = x >= 20 && x <= 40 && y >= 70 && y <= 74;
                edges.due("at " + x + ", " + y, touches ? 0 : 3, besideWideCut(x, y).told(0, 5));
            }
        }
        for (int far : new int[] {0, 30, 50, 99}) {
            edges.due("far to a side", 3, besideWideCut(99 - far / 2, far).told(0, 5));
            edges.due("above", 3, besideWideCut(30, far / 2).told(0, 5));
            edges.due("beside", 3, besideWideCut(50 + far / 3, 72).told(0, 5));
        }
    }

    private static void touchingPoints() {
        edges.words(Edges.TERMS, "(has a point in it, edges too)");
        for (int x = 49; x <= 51; x++) {
            for (int y = 49; y <= 51; y++) {
                Book b = Book.withChildren(2);
                b.picture(0, 1, 1);
                b.face(0, 0, 50, 50, 0);
                b.face(0, 1, x, y, 0);
                b.consent(1, 6);
                good("a point at " + x + ", " + y, x == 50 && y == 50 ? 0 : 1, b);
            }
        }
    }

    private static void aroundAndInside() {
        edges.words(Edges.TERMS, "(has a point in it, edges too)");
        good("a point in the middle", 0, other(50, 50, 0));
        good("all around the cut", 0, other(50, 50, 20));
        good("just the cut", 0, other(50, 50, 10));
        good("across it from above", 0, other(50, 35, 15));
        Book b = other(50, 50, 20);
        b.consent(1, 1);
        edges.due("both may: they may touch", 3, b.told(0, 5));
    }

    private static void betweenFaces() {
        edges.words(Edges.TERMS, "touches the CUT");
        Book b = Book.withChildren(3);
        b.picture(0, 1, 1);
        b.face(0, 0, 10, 10, 2);
        b.face(0, 1, 80, 80, 2);
        b.face(0, 2, 10, 80, 2);
        b.consent(2, 6);
        good("in the box, though on no face", 0, b);
        b.consent(1, 6);
        good("the box is less without the second", 1, b);
    }

    private static void toldOfNotGood() {
        edges.words(8, "5: SEEN, as bits (0 if it is not GOOD)");
        Book b = other(60, 60, 0);
        edges.due("seen", 0, b.told(0, 5));
        edges.due("children in good ones", 0, b.count(6));
        edges.words(8, "6 .. 9: its CUT's least x, y, greatest x, y (NONE without a FACE that MAY be seen)");
        cut("its cut is told though it is not good", b, 40, 40, 60, 60);
    }

    private static void pageOfPicture() {
        edges.words(8, "10: its PAGE (NONE if it is not LAID)");
        Book b = Book.ofSize(12, 14);
        b.choose(16382);
        edges.due("chosen, not laid", NONE, b.told(1, 10));
        b.lay();
        edges.due("not chosen", NONE, b.told(0, 10));
        edges.due("first page", 0, b.told(1, 10));
        edges.due("last page", 12, b.told(13, 10));
        b.late(0);
        edges.due("the 14th page", 13, b.told(0, 10));
        b.drop(0);
        edges.due("dropped", NONE, b.told(0, 10));
        b.choose(16382);
        edges.due("chosen anew", NONE, b.told(1, 10));
    }

    private static void toldThrows() {
        edges.words(8, "NoSuchElementException: none such, another what.");
        for (int picture : Edges.outside(0, 3)) {
            for (int what : new int[] {0, 6, 10, 11}) {
                edges.keeps("told(" + picture + ", " + what + ")", Book.THROWN, Book::small, b -> b.told(picture, what));
            }
        }
        for (int what : Edges.outside(0, 10)) {
            edges.keeps("told(0, " + what + ")", Book.THROWN, Book::small, b -> b.told(0, what));
            edges.keeps("told(3, " + what + ")", Book.THROWN, Book::small, b -> b.told(3, what));
            edges.keeps("told(4, " + what + ")", Book.THROWN, Book::small, b -> b.told(4, what));
        }
        for (int picture : Edges.outside(0, 13)) {
            edges.keeps("told(" + picture + ", 0) of 14", Book.THROWN, Book::full, b -> b.told(picture, 0));
        }
    }

    private static void toldChangesNothing() {
        edges.words(8, "Of a PICTURE, what 0: KIND, 1: WORTH, 2: SIZE, 3: FACES, 4: GOOD (1, 0)");
        int[] want = {1, 20, 7, 2, 1, 2, 20, 20, 20, 20, 1};
        for (int what = 0; what <= 10; what++) {
            int w = what;
            edges.keeps("told(1, " + w + ")", want[w], Book::small, b -> b.told(1, w));
        }
    }

    // ---- promise 9

    private static void names(String what, Book b, int... want) {
        for (int i = 0; i < want.length; i++) {
            edges.due(what + ": name " + i, want[i], b.name(0, i));
        }
        edges.due(what + ": behind the last", NONE, b.name(0, want.length));
    }

    /** Faces as points; child c is at the c-th x and y. */
    private static Book points(int... xy) {
        Book b = Book.withChildren(xy.length / 2);
        b.picture(0, 1, 1);
        for (int c = 0; c < xy.length / 2; c++) {
            b.face(0, c, xy[2 * c], xy[2 * c + 1], 0);
        }
        return b;
    }

    private static void rowsBySpan() {
        edges.words(Edges.TERMS, "and all of them with y at most SPAN (0 .. 50, at first 10) below it, are a row");
        names("at first: 10 below is in the row", points(90, 0, 10, 10), 1, 0);
        names("at first: 11 below is not", points(90, 0, 10, 11), 0, 1);
        for (int span = 0; span <= 49; span++) {
            Book just = points(90, 20, 10, 20 + span);
            just.set(0, span);
            names("span " + span + ", just so far below", just, 1, 0);
            Book more = points(90, 20, 10, 21 + span);
            more.set(0, span);
            names("span " + span + ", a point more", more, 0, 1);
        }
        Book most = points(90, 0, 50, 50, 10, 51);
        most.set(0, 50);
        names("span 50", most, 1, 0, 2);
        Book none = points(90, 5, 50, 5, 10, 6);
        none.set(0, 0);
        names("span 0: the same y alone", none, 1, 0, 2);
        Book refused = points(90, 0, 10, 11);
        refused.set(0, 51);
        refused.set(0, -1);
        names("a refused span", refused, 0, 1);
    }

    private static void rowsFromTheirTop() {
        edges.words(Edges.TERMS, "then the next row of those left");
        names("10 below one that is 10 below the top", points(90, 0, 50, 10, 10, 20), 1, 0, 2);
        names("a row's top is the least of those left", points(90, 0, 80, 11, 70, 21, 60, 22), 0, 2, 1, 3);
        names("eight rows", points(7, 0, 6, 11, 5, 22, 4, 33, 3, 44, 2, 55, 1, 66, 0, 77), 0, 1, 2, 3, 4, 5, 6, 7);
        names("told from below", points(0, 77, 1, 66, 2, 55, 3, 44, 4, 33, 5, 22, 6, 11, 7, 0), 7, 6, 5, 4, 3, 2, 1, 0);
    }

    private static void rowsByXThenChild() {
        edges.words(Edges.TERMS, "in it by x, of equal ones by the CHILD's number");
        names("by x, not by y", points(3, 0, 2, 5, 1, 10, 0, 9), 3, 2, 1, 0);
        names("all at one place", points(5, 5, 5, 5, 5, 5, 5, 5, 5, 5, 5, 5, 5, 5, 5, 5), 0, 1, 2, 3, 4, 5, 6, 7);
        Book b = Book.withChildren(3);
        b.picture(0, 1, 1);
        b.face(0, 2, 5, 0, 0);
        b.face(0, 0, 5, 8, 0);
        b.face(0, 1, 5, 4, 0);
        names("equal x: by number, not as told, not by y", b, 0, 1, 2);
    }

    private static void rowsOfSeenOnly() {
        edges.words(Edges.TERMS, "its SEEN FACES by rows: the least y of those left");
        Book b = points(50, 0, 90, 5, 10, 15);
        names("all three", b, 0, 1, 2);
        b.consent(0, 6);
        names("one who may not be seen makes no row", b, 2, 1);
        b.consent(0, 1);
        names("and may again", b, 0, 1, 2);
    }

    private static void namesOutside() {
        edges.words(9, "NONE: none such, it is not GOOD.");
        names("eight", Book.crowded(), 0, 1, 2, 3, 4, 5, 6, 7);
        for (int i : Edges.outside(0, 7)) {
            edges.refused("name(0, " + i + ")", Book::crowded, b -> b.name(0, i));
        }
        for (int picture : Edges.outside(0, 3)) {
            edges.refused("picture " + picture, Book::small, b -> b.name(picture, 0));
        }
        edges.keeps("a name", 0, Book::crowded, b -> b.name(0, 0));
        Supplier<Book> notGood = () -> other(60, 60, 0);
        for (int i = -1; i <= 8; i++) {
            int n = i;
            edges.refused("not good: name " + n, notGood, b -> b.name(0, n));
            edges.refused("no face: name " + n, Book::small, b -> b.name(3, n));
        }
    }

    // ---- promises 10, 11 and 12

    private static void seenTimes() {
        edges.words(10, "In how many PICTURES of THE CHOICE that are GOOD a CHILD is SEEN");
        Book b = Book.withChildren(3);
        for (int p = 0; p < 14; p++) {
            b.show(1, 0, 1);
        }
        edges.due("no choice", 0, b.seen(0));
        b.choose(16383);
        edges.due("in all 14", 14, b.seen(0));
        edges.due("in none", 0, b.seen(2));
        b.choose(1 << 13);
        edges.due("in the last", 1, b.seen(1));
        b.face(13, 2, 5, 0, 0);
        edges.due("a third comes between", 1, b.seen(2));
        b.consent(2, 0);
        edges.due("in a chosen one that is not good", 0, b.seen(1));
        edges.due("who may not", 0, b.seen(2));
        b.consent(2, 7);
        edges.due("it is good again", 1, b.seen(1));
    }

    private static void seenRefused() {
        edges.words(10, "NONE for none such.");
        for (int child : Edges.outside(0, 2)) {
            edges.refused("seen(" + child + ")", Book::small, b -> b.seen(child));
        }
        for (int child : Edges.outside(0, 15)) {
            edges.refused("seen(" + child + ") of 16", Book::full, b -> b.seen(child));
        }
        edges.keeps("seen(1)", 2, Book::small, b -> b.seen(1));
        edges.due("the last of 16", 0, Book.full().seen(15));
    }

    private static void proofsInOrder() {
        edges.words(11, "The i-th PICTURE (by number) of THE CHOICE that is GOOD and in which a CHILD is SEEN");
        Book b = Book.withChildren(2);
        for (int p = 0; p < 14; p++) {
            b.show(1, 0);
        }
        b.choose(16383);
        for (int i = 0; i < 14; i++) {
            edges.due("proof(0, " + i + ")", i, b.proof(0, i));
        }
        edges.due("behind the 14th", NONE, b.proof(0, 14));
        edges.due("of a child in none", NONE, b.proof(1, 0));
        b.choose(0x2AAA);
        edges.due("each second", 13, b.proof(0, 6));
        b.face(1, 1, 0, 0, 0);
        b.consent(1, 0);
        edges.due("one that is not good is passed over", 3, b.proof(0, 0));
        edges.due("so there is one less", NONE, b.proof(0, 6));
        b.choose(0);
        edges.due("no choice", NONE, b.proof(0, 0));
    }

    private static void proofsOutside() {
        edges.words(11, "NONE for none such.");
        edges.keeps("proof(1, 1)", 1, Book::small, b -> b.proof(1, 1));
        for (int i : Edges.outside(0, 1)) {
            edges.refused("proof(1, " + i + ")", Book::small, b -> b.proof(1, i));
        }
        for (int child : Edges.outside(0, 2)) {
            edges.refused("proof(" + child + ", 0)", Book::small, b -> b.proof(child, 0));
        }
        for (int child : Edges.outside(0, 15)) {
            edges.refused("proof(" + child + ", 0) of 16", Book::full, b -> b.proof(child, 0));
        }
    }

    private static void showsTimes() {
        edges.words(12, "How many PICTURES of THE CHOICE in all show CHILDREN of a CLASS (are GOOD, one of it being SEEN).");
        Book b = Book.withChildren(12);
        for (int p = 0; p < 14; p++) {
            b.show(1, 1, 11, 9);
        }
        edges.due("no choice", 0, b.shows(1));
        b.choose(16383);
        edges.due("two of a class count once", 14, b.shows(1));
        edges.due("class 9", 14, b.shows(9));
        edges.due("class 0 is in none", 0, b.shows(0));
        b.consent(1, 0);
        edges.due("one of two may", 14, b.shows(1));
        b.consent(9, 0);
        edges.due("the only one may not", 0, b.shows(9));
        b.face(0, 0, 10, 0, 0);
        b.consent(0, 0);
        edges.due("one is not good", 13, b.shows(1));
    }

    private static void showsRefused() {
        edges.words(12, "NONE: another CLASS.");
        for (int room : Edges.outside(0, 9)) {
            edges.refused("shows(" + room + ")", Book::small, b -> b.shows(room));
            edges.refused("shows(" + room + ") of a new one", Book::new, b -> b.shows(room));
        }
        edges.keeps("shows(0)", 1, Book::small, b -> b.shows(0));
        edges.keeps("shows(9)", 1, Book::small, b -> b.shows(9));
    }
}
