import java.io.IOException;
import java.util.function.Supplier;

/** The edges that the document names for what is told: promises 1 to 6, and the numbers of the terms. */
public final class EdgesOfTellingTest {
    private static final int NONE = Book.NONE;
    private static final int[] LEAST = {0, 0, 0, 1};
    private static final int[] MOST = {50, 14, 14, 14};
    private static final int[] AT_FIRST = {10, 0, 14, 14};
    private static Edges edges;

    public static void main(String[] args) throws IOException {
        edges = new Edges("EdgesOfTellingTest");
        newObject();
        newObjectRefuses();
        objectsApart();
        classes();
        seventeenthChild();
        consentAtFirst();
        consentBits();
        consentRefused();
        kinds();
        worths();
        sizes();
        fifteenthPicture();
        middles();
        halves();
        noSuchPictureOrChild();
        eachChildOnce();
        ninthFace();
        settingsAtFirst();
        settingsWithin();
        settingsRefused();
        lowAboveHigh();
        edges.end(1, 6);
    }

    // ---- promise 1

    private static void newObject() {
        edges.words(1, "No CHILDREN, PICTURES; nothing LAID.");
        for (int what = 0; what <= 6; what++) {
            edges.due("count(" + what + ")", 0, new Book().count(what));
        }
        for (int room = 0; room <= 9; room++) {
            edges.due("shows(" + room + ")", 0, new Book().shows(room));
        }
        edges.keeps("choose(0)", 1, Book::new, b -> b.choose(0));
        edges.keeps("wrong()", 0, Book::new, Book::wrong);
        edges.keeps("best()", 0, Book::new, Book::best);
        edges.keeps("mend()", 0, Book::new, Book::mend);
        edges.keeps("choices()", 1, Book::new, Book::choices);
        edges.keeps("lacking()", NONE, Book::new, Book::lacking);
        edges.keeps("fewest()", 0, Book::new, Book::fewest);
        edges.keeps("lay()", 0, Book::new, Book::lay);
    }

    private static void newObjectRefuses() {
        edges.words(1, "No CHILDREN, PICTURES; nothing LAID.");
        for (int i = 0; i <= 16; i++) {
            int n = i;
            edges.refused("consent of child " + n, Book::new, b -> b.consent(n, 0));
            edges.refused("face in picture " + n, Book::new, b -> b.face(n, n, 0, 0, 0));
            edges.refused("name in picture " + n, Book::new, b -> b.name(n, 0));
            edges.refused("seen(" + n + ")", Book::new, b -> b.seen(n));
            edges.refused("proof(" + n + ", 0)", Book::new, b -> b.proof(n, 0));
            edges.refused("page(" + n + ")", Book::new, b -> b.page(n));
            edges.refused("left(" + n + ")", Book::new, b -> b.left(n));
            edges.refused("late(" + n + ")", Book::new, b -> b.late(n));
            edges.keeps("drop(" + n + ")", 0, Book::new, b -> b.drop(n));
            edges.keeps("choose(1 << " + n + ")", 0, Book::new, b -> b.choose(1 << n));
        }
        for (int what = 0; what <= 10; what++) {
            int w = what;
            edges.keeps("told(0, " + w + ")", Book.THROWN, Book::new, b -> b.told(0, w));
        }
    }

    private static void objectsApart() {
        edges.words(1, "No CHILDREN, PICTURES; nothing LAID.");
        Book before = new Book();
        Book.full().calls();
        Book other = Book.small();
        edges.same("an object made before others", new Book(), before);
        edges.same("an object made after others", Book.small(), other);
    }

    // ---- promise 2

    private static void classes() {
        edges.words(Edges.TERMS, "each of a CLASS 0 .. 9");
        for (int room = 0; room <= 9; room++) {
            Book b = new Book();
            edges.due("class " + room, 0, b.child(room));
            b.show(1, 0).choose(1);
            for (int other = 0; other <= 9; other++) {
                edges.due("of class " + room + ", asked for " + other, other == room ? 1 : 0, b.shows(other));
            }
        }
        edges.words(2, "Refused: another CLASS");
        for (int room : Edges.outside(0, 9)) {
            edges.refused("class " + room, Book::new, b -> b.child(room));
            edges.refused("class " + room, Book::small, b -> b.child(room));
        }
        Book b = new Book();
        b.child(10);
        b.child(-1);
        edges.due("no number is lost by it", 0, b.child(9));
    }

    private static void seventeenthChild() {
        edges.words(Edges.TERMS, "CHILDREN 0 .. (at most 16)");
        Book b = new Book();
        for (int i = 0; i < 16; i++) {
            edges.due("child " + i, i, b.child(9 - i % 10));
            edges.due("children", i + 1, b.count(0));
        }
        edges.due("the last one is there", 7, b.consent(15, 7));
        b.show(1, 15);
        edges.due("and is seen", 1 << 15, b.told(0, 5));
        edges.words(2, "Refused: another CLASS, 16.");
        for (int room = -1; room <= 10; room++) {
            int r = room;
            edges.refused("a 17th, of class " + r, () -> Book.withChildren(16), c -> c.child(r));
        }
        edges.refused("a 17th", Book::full, c -> c.child(0));
        edges.refused("an 18th", Book::full, c -> Math.max(c.child(0), c.child(0)));
    }

    // ---- promise 3

    private static void consentAtFirst() {
        edges.words(Edges.TERMS, "(bits; at first all, 7)");
        Book b = Book.withChildren(16);
        for (int c = 0; c < 16; c++) {
            edges.due("child " + c, 7, b.consent(c, 0));
        }
    }

    private static void consentBits() {
        edges.words(3, "CONSENT of a CHILD becomes bits (0 .. 7): what it was.");
        for (int was = 0; was <= 7; was++) {
            for (int bits = 0; bits <= 7; bits++) {
                Book b = Book.withChildren(2);
                b.consent(1, was);
                edges.due("to " + bits, was, b.consent(1, bits));
                edges.due("it is so", bits, b.consent(1, bits));
                edges.due("the other child's", 7, b.consent(0, 7));
            }
        }
        edges.words(Edges.TERMS, "A CHILD MAY be seen in a PICTURE, if it has CONSENT to its KIND.");
        for (int bits = 0; bits <= 7; bits++) {
            for (int kind = 0; kind <= 2; kind++) {
                Book b = Book.withChildren(1);
                b.consent(0, bits);
                b.picture(kind, 0, 1);
                b.face(0, 0, 5, 5, 5);
                edges.due("bits " + bits + ", kind " + kind, bits >> kind & 1, b.told(0, 5));
                b.consent(0, 7 - bits);
                edges.due("bits changed, kind " + kind, 1 - (bits >> kind & 1), b.told(0, 5));
            }
        }
    }

    private static void consentRefused() {
        edges.words(3, "Refused: others.");
        for (int bits : Edges.outside(0, 7)) {
            edges.refused("bits " + bits, Book::small, b -> b.consent(0, bits));
            edges.refused("bits " + bits + " of the last", Book::small, b -> b.consent(2, bits));
        }
        for (int child : Edges.outside(0, 2)) {
            edges.refused("child " + child, Book::small, b -> b.consent(child, 0));
            edges.refused("child " + child + ", bits 8", Book::small, b -> b.consent(child, 8));
        }
        for (int child : Edges.outside(0, 15)) {
            edges.refused("child " + child + " of 16", Book::full, b -> b.consent(child, 0));
        }
    }

    // ---- promise 4

    private static void kinds() {
        edges.words(Edges.TERMS, "each of a KIND 0 .. 2");
        for (int kind = 0; kind <= 2; kind++) {
            Book b = new Book();
            edges.due("kind " + kind, 0, b.picture(kind, 1, 1));
            edges.due("it is so", kind, b.told(0, 0));
        }
        edges.words(4, "Refused: others");
        for (int kind : Edges.outside(0, 2)) {
            edges.refused("kind " + kind, Book::new, b -> b.picture(kind, 0, 1));
            edges.refused("kind " + kind, Book::small, b -> b.picture(kind, 100, 12));
        }
    }

    private static void worths() {
        edges.words(Edges.TERMS, "WORTH 0 .. 100");
        for (int worth = 0; worth <= 100; worth++) {
            Book b = new Book();
            edges.due("worth " + worth, 0, b.picture(2, worth, 12));
            edges.due("it is so", worth, b.told(0, 1));
        }
        edges.words(4, "Refused: others");
        for (int worth : Edges.outside(0, 100)) {
            edges.refused("worth " + worth, Book::new, b -> b.picture(0, worth, 1));
            edges.refused("worth " + worth, Book::small, b -> b.picture(2, worth, 12));
        }
    }

    private static void sizes() {
        edges.words(Edges.TERMS, "SIZE 1 .. 12 points");
        for (int size = 1; size <= 12; size++) {
            Book b = new Book();
            edges.due("size " + size, 0, b.picture(1, 0, size));
            edges.due("it is so", size, b.told(0, 2));
        }
        edges.words(4, "Refused: others");
        for (int size : Edges.outside(1, 12)) {
            edges.refused("size " + size, Book::new, b -> b.picture(0, 0, size));
            edges.refused("size " + size, Book::small, b -> b.picture(2, 100, size));
        }
        Book b = new Book();
        b.picture(0, 0, 13);
        b.picture(0, 101, 12);
        b.picture(3, 100, 12);
        edges.due("no number is lost by it", 0, b.picture(0, 0, 1));
    }

    private static void fifteenthPicture() {
        edges.words(Edges.TERMS, "PICTURES 0 .. (at most 14)");
        Book b = Book.withChildren(1);
        for (int p = 0; p < 14; p++) {
            edges.due("picture " + p, p, b.picture(p % 3, p, 1 + p % 12));
            edges.due("pictures", p + 1, b.count(1));
        }
        edges.due("the last one is there", 1, b.face(13, 0, 0, 0, 0));
        edges.due("its worth", 13, b.told(13, 1));
        edges.words(4, "Refused: others, 14.");
        edges.refused("a 15th", () -> Book.ofSize(1, 14), c -> c.picture(0, 0, 1));
        edges.refused("a 15th", Book::full, c -> c.picture(2, 100, 12));
        edges.refused("a 16th", Book::full, c -> Math.max(c.picture(0, 0, 1), c.picture(0, 0, 1)));
        edges.refused("a 15th, not as told", Book::full, c -> c.picture(3, 101, 13));
    }

    // ---- promise 5

    private static Book onePicture() {
        Book b = Book.withChildren(3);
        b.picture(0, 1, 1);
        b.face(0, 2, 50, 50, 10);
        return b;
    }

    private static void middles() {
        edges.words(Edges.TERMS, "its middle x, y (0 .. 99)");
        for (int v = 0; v <= 99; v++) {
            Book b = Book.withChildren(1);
            b.picture(0, 1, 1);
            edges.due("face at " + v, 1, b.face(0, 0, v, 99 - v, 0));
            edges.due("x", v, b.told(0, 6));
            edges.due("y", 99 - v, b.told(0, 7));
        }
        edges.words(5, "numbers not as told");
        for (int v : Edges.outside(0, 99)) {
            edges.refused("x " + v, EdgesOfTellingTest::onePicture, b -> b.face(0, 0, v, 0, 0));
            edges.refused("y " + v, EdgesOfTellingTest::onePicture, b -> b.face(0, 0, 99, v, 20));
        }
    }

    private static void halves() {
        edges.words(Edges.TERMS, "its half r (0 .. 20)");
        for (int r = 0; r <= 20; r++) {
            Book b = Book.withChildren(1);
            b.picture(0, 1, 1);
            edges.due("half " + r, 1, b.face(0, 0, 30, 40, r));
            edges.due("least x", 30 - r, b.told(0, 6));
            edges.due("greatest y", 40 + r, b.told(0, 9));
        }
        edges.words(5, "numbers not as told");
        for (int r : Edges.outside(0, 20)) {
            edges.refused("half " + r, EdgesOfTellingTest::onePicture, b -> b.face(0, 0, 50, 50, r));
        }
    }

    private static void noSuchPictureOrChild() {
        edges.words(5, "Refused: no such CHILD, PICTURE");
        for (int child : Edges.outside(0, 2)) {
            edges.refused("child " + child, Book::small, b -> b.face(3, child, 0, 0, 0));
        }
        for (int picture : Edges.outside(0, 3)) {
            edges.refused("picture " + picture, Book::small, b -> b.face(picture, 0, 0, 0, 0));
        }
        for (int child : Edges.outside(0, 15)) {
            edges.refused("child " + child + " of 16", Book::full, b -> b.face(0, child, 0, 0, 0));
        }
        for (int picture : Edges.outside(0, 13)) {
            edges.refused("picture " + picture + " of 14", Book::full, b -> b.face(picture, 15, 0, 0, 0));
        }
        edges.refused("a child without pictures", () -> Book.withChildren(1), b -> b.face(0, 0, 0, 0, 0));
        edges.refused("a picture without children", () -> Book.ofSizes(1), b -> b.face(0, 0, 0, 0, 0));
    }

    private static void eachChildOnce() {
        edges.words(Edges.TERMS, "a CHILD (each once)");
        Book b = Book.withChildren(2);
        b.picture(0, 1, 1);
        b.picture(0, 1, 1);
        edges.due("the first", 1, b.face(0, 1, 5, 5, 1));
        edges.due("the same child in another picture", 1, b.face(1, 1, 5, 5, 1));
        edges.due("another child at the same place", 2, b.face(0, 0, 5, 5, 1));
        edges.words(5, "it is in it");
        edges.refused("in it, elsewhere", Book::small, c -> c.face(0, 1, 80, 80, 1));
        edges.refused("in it, at the same place", Book::small, c -> c.face(0, 0, 10, 10, 3));
        edges.refused("in it, though it may not be seen", Book::small, c -> c.face(1, 2, 0, 0, 0));
        edges.refused("in it, and full", Book::crowded, c -> c.face(0, 0, 0, 0, 0));
    }

    private static void ninthFace() {
        edges.words(Edges.TERMS, "with at most 8 FACES");
        Book b = Book.withChildren(16);
        b.picture(0, 1, 1);
        for (int n = 1; n <= 8; n++) {
            edges.due("face " + n, n, b.face(0, 16 - n, n, n, 0));
            edges.due("faces", n, b.told(0, 3));
        }
        edges.due("all of them are seen", 0xFF00, b.told(0, 5));
        edges.words(5, "it is in it; 8.");
        edges.refused("a 9th", Book::crowded, c -> c.face(0, 8, 0, 0, 0));
        edges.refused("a 9th, not as told", Book::crowded, c -> c.face(0, 8, 100, 0, 0));
        Supplier<Book> halfOfThemUnseen = () -> {
            Book c = Book.crowded();
            for (int child = 0; child < 4; child++) {
                c.consent(child, 0);
            }
            return c;
        };
        edges.refused("a 9th: those who may not be seen count too", halfOfThemUnseen, c -> c.face(0, 8, 0, 0, 0));
        Book two = Book.crowded();
        two.picture(0, 1, 1);
        edges.due("another picture has its own eight", 1, two.face(1, 8, 0, 0, 0));
    }

    // ---- promise 6

    private static void settingsAtFirst() {
        edges.words(Edges.TERMS, "SPAN (0 .. 50, at first 10)");
        edges.due("SPAN", 10, new Book().set(0, 0));
        edges.words(Edges.TERMS, "(0 .. 14; 0 and 14 at first)");
        edges.due("LOW", 0, new Book().set(1, 14));
        edges.due("HIGH", 14, new Book().set(2, 0));
        edges.words(Edges.TERMS, "LAST (1 .. 14, at first 14)");
        edges.due("LAST", 14, new Book().set(3, 1));
    }

    private static void settingsWithin() {
        edges.words(6, "SPAN (what 0), LOW (1), HIGH (2), LAST (3) becomes v: what it was.");
        for (int what = 0; what < 4; what++) {
            Book b = new Book();
            int was = AT_FIRST[what];
            for (int v = LEAST[what]; v <= MOST[what]; v++) {
                edges.due("what " + what + " becomes " + v, was, b.set(what, v));
                was = v;
            }
            edges.due("what " + what + " is the most", MOST[what], b.set(what, MOST[what]));
            for (int other = 0; other < 4; other++) {
                if (other != what) {
                    edges.due("what " + other + " is as it was", AT_FIRST[other], b.set(other, 1));
                }
            }
        }
    }

    private static void settingsRefused() {
        edges.words(6, "Refused: others.");
        for (int what = 0; what < 4; what++) {
            int w = what;
            for (int v : Edges.outside(LEAST[what], MOST[what])) {
                edges.refused("set(" + w + ", " + v + ")", Book::new, b -> b.set(w, v));
                edges.refused("set(" + w + ", " + v + ")", Book::small, b -> b.set(w, v));
            }
        }
        for (int what : Edges.outside(0, 3)) {
            edges.refused("set(" + what + ", 1)", Book::small, b -> b.set(what, 1));
            edges.refused("set(" + what + ", 14)", Book::small, b -> b.set(what, 14));
            edges.refused("set(" + what + ", -1)", Book::small, b -> b.set(what, -1));
        }
    }

    private static void lowAboveHigh() {
        edges.words(6, "(LOW may be above HIGH.)");
        Book b = Book.small();
        edges.due("HIGH 0", 3, b.set(2, 0));
        edges.due("LOW 14", 1, b.set(1, 14));
        edges.due("LOW is 14", 14, b.set(1, 14));
        edges.due("HIGH is 0", 0, b.set(2, 0));
        edges.due("then no choice fits", 0, b.choices());
    }
}
