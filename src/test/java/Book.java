import java.util.ArrayList;
import java.util.List;
import java.util.NoSuchElementException;

/** A YearBook whose calls are counted: the document promises nothing behind the 512th. */
final class Book {
    static final int NONE = -1;
    /** What told answers here where the YearBook throws NoSuchElementException. */
    static final int THROWN = -1000;
    private static final int MOST_CALLS = 512;

    private final YearBook book = new YearBook();
    private int calls;

    private YearBook called() {
        calls++;
        if (calls > MOST_CALLS) {
            throw new IllegalStateException("this test makes more than " + MOST_CALLS + " calls");
        }
        return book;
    }

    int calls() {
        return calls;
    }

    int child(int room) {
        return called().child(room);
    }

    int consent(int child, int bits) {
        return called().consent(child, bits);
    }

    int picture(int kind, int worth, int size) {
        return called().picture(kind, worth, size);
    }

    int face(int picture, int child, int x, int y, int r) {
        return called().face(picture, child, x, y, r);
    }

    int set(int what, int v) {
        return called().set(what, v);
    }

    int count(int what) {
        return called().count(what);
    }

    int told(int picture, int what) {
        try {
            return called().told(picture, what);
        } catch (NoSuchElementException e) {
            return THROWN;
        }
    }

    int name(int picture, int i) {
        return called().name(picture, i);
    }

    int seen(int child) {
        return called().seen(child);
    }

    int proof(int child, int i) {
        return called().proof(child, i);
    }

    int shows(int room) {
        return called().shows(room);
    }

    /** 1 for true, 0 for false. */
    int choose(int bits) {
        return called().choose(bits) ? 1 : 0;
    }

    int wrong() {
        return called().wrong();
    }

    int best() {
        return called().best();
    }

    int mend() {
        return called().mend();
    }

    int choices() {
        return called().choices();
    }

    int lacking() {
        return called().lacking();
    }

    int fewest() {
        return called().fewest();
    }

    int lay() {
        return called().lay();
    }

    int page(int page) {
        return called().page(page);
    }

    int left(int page) {
        return called().left(page);
    }

    int late(int picture) {
        return called().late(picture);
    }

    /** 1 for true, 0 for false. */
    int drop(int picture) {
        return called().drop(picture) ? 1 : 0;
    }

    // ---- books for the tests

    static Book withChildren(int n) {
        Book b = new Book();
        for (int i = 0; i < n; i++) {
            b.child(i % 10);
        }
        return b;
    }

    /** Pictures of these sizes, of worth 1, without faces. */
    static Book ofSizes(int... sizes) {
        Book b = new Book();
        for (int size : sizes) {
            b.picture(0, 1, size);
        }
        return b;
    }

    /** So many pictures of one size. */
    static Book ofSize(int size, int n) {
        Book b = new Book();
        for (int i = 0; i < n; i++) {
            b.picture(0, 1, size);
        }
        return b;
    }

    /** Pictures of these sizes, chosen and laid all. */
    static Book laid(int... sizes) {
        Book b = ofSizes(sizes);
        b.choose((1 << sizes.length) - 1);
        b.lay();
        return b;
    }

    /** A picture more, of kind 0 and 4 points, with tiny faces that are far from one another. */
    Book show(int worth, int... children) {
        int p = picture(0, worth, 4);
        for (int i = 0; i < children.length; i++) {
            face(p, children[i], i * 10, 0, 1);
        }
        return this;
    }

    /** Three children and four pictures, with each number told to be another than at first; laid. */
    static Book small() {
        Book b = new Book();
        b.child(0);
        b.child(3);
        b.child(9);
        b.picture(0, 10, 6);
        b.picture(1, 20, 7);
        b.picture(2, 30, 5);
        b.picture(0, 40, 12);
        b.face(0, 0, 10, 10, 3);
        b.face(0, 1, 40, 15, 3);
        b.face(1, 1, 20, 20, 0);
        b.face(1, 2, 60, 60, 5);
        b.face(2, 2, 99, 0, 20);
        b.consent(2, 5);
        b.set(0, 7);
        b.set(1, 1);
        b.set(2, 3);
        b.set(3, 5);
        b.choose(7);
        b.lay();
        return b;
    }

    /** All 16 children and all 14 pictures, a face in each, all chosen, and laid on 14 pages. */
    static Book full() {
        Book b = withChildren(16);
        for (int p = 0; p < 14; p++) {
            b.picture(p % 3, 100, 12);
            b.face(p, p, 50, 50, 5);
        }
        b.choose(16383);
        b.lay();
        return b;
    }

    /** A picture that has all its eight faces, of the first eight of nine children. */
    static Book crowded() {
        Book b = withChildren(9);
        b.picture(0, 1, 1);
        for (int c = 0; c < 8; c++) {
            b.face(0, c, 12 * c, 12 * c, c);
        }
        return b;
    }

    // ---- all that can be asked

    /** Every answer there is, a row each; and then what best, mend and lay make of the book. */
    List<String> state() {
        List<String> rows = new ArrayList<>();
        for (int what = 0; what <= 6; what++) {
            rows.add("count(" + what + ") " + count(what));
        }
        int children = count(0);
        int pictures = count(1);
        addSettings(rows);
        for (int c = 0; c < children; c++) {
            addChild(rows, c);
        }
        for (int p = 0; p < pictures; p++) {
            addPicture(rows, p);
        }
        for (int room = 0; room < 10; room++) {
            rows.add("shows(" + room + ") " + shows(room));
        }
        rows.add("wrong " + wrong() + ", choices " + choices() + ", lacking " + lacking() + ", fewest " + fewest());
        addPages(rows);
        rows.add("then lay " + lay());
        addPages(rows);
        rows.add("then mend " + mend() + ", " + count(2));
        rows.add("then best " + best() + ", " + count(2));
        return rows;
    }

    private void addSettings(List<String> rows) {
        for (int what = 0; what < 4; what++) {
            int was = set(what, 1);
            set(what, was);
            rows.add("setting " + what + ": " + was);
        }
    }

    private void addChild(List<String> rows, int c) {
        int was = consent(c, 7);
        consent(c, was);
        StringBuilder row = new StringBuilder("child " + c + ": consent " + was + ", proofs");
        int times = seen(c);
        for (int i = 0; i <= times; i++) {
            row.append(' ').append(proof(c, i));
        }
        rows.add(row.toString());
    }

    private void addPicture(List<String> rows, int p) {
        StringBuilder row = new StringBuilder("picture " + p + ":");
        int faces = 0;
        for (int what = 0; what <= 10; what++) {
            int answer = told(p, what);
            faces = what == 3 ? answer : faces;
            row.append(' ').append(answer);
        }
        row.append(", names");
        for (int i = 0; i <= faces; i++) {
            row.append(' ').append(name(p, i));
        }
        rows.add(row.toString());
    }

    private void addPages(List<String> rows) {
        int n = count(4);
        for (int page = 0; page <= n; page++) {
            rows.add("page " + page + ": " + page(page) + ", left " + left(page));
        }
    }
}
