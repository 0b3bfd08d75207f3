import java.io.IOException;
import java.nio.file.Files;
import java.nio.file.Path;
import java.util.ArrayList;
import java.util.List;
import java.util.Set;
import java.util.TreeSet;
import java.util.function.Supplier;
import java.util.function.ToIntFunction;

/**
 * What the tests of edges share. Each test names the words of the document that it is about, and
 * they are looked up there: a test of words that do not stand in the document is a fault too.
 */
final class Edges {
    static final int NONE = Book.NONE;
    static final int TERMS = 0;

    private final String name;
    private final String document;
    private final Set<Integer> promises = new TreeSet<>();
    private int sentences;
    private int checks;
    private int wrong;
    private String about = "";

    Edges(String name) throws IOException {
        this.name = name;
        document = oneLine(Files.readString(Path.of("../shared/DOC.md")));
    }

    private static String oneLine(String text) {
        return text.replaceAll("\\s+", " ");
    }

    /** What follows is about these words of a promise, or of the TERMS. */
    void words(int promise, String text) {
        about = (promise == TERMS ? "Terms" : "promise " + promise) + ", \"" + text + "\"";
        sentences++;
        promises.add(promise);
        String head = promise == TERMS ? "## Terms" : "## Promise " + promise + ": ";
        int from = document.indexOf(head);
        int to = from < 0 ? from : document.indexOf("## ", from + 3);
        if (from < 0 || to < 0 || !document.substring(from, to).contains(text)) {
            fault("these words do not stand in the document there");
        }
    }

    private void fault(String text) {
        wrong++;
        System.out.println(about + ": " + text);
    }

    void due(String what, int want, int got) {
        checks++;
        if (want != got) {
            fault(what + " answered " + got + ", due is " + want);
        }
    }

    /** The call answers NONE, and the book is then as one that never heard it. */
    void refused(String what, Supplier<Book> maker, ToIntFunction<Book> call) {
        keeps(what, NONE, maker, call);
    }

    /** The call answers so, and the book is then as one that never heard it. */
    void keeps(String what, int want, Supplier<Book> maker, ToIntFunction<Book> call) {
        Book book = maker.get();
        due(what, want, call.applyAsInt(book));
        same(what, maker.get(), book);
    }

    /** All that can be asked of the two books has the same answers. */
    void same(String what, Book one, Book other) {
        checks++;
        List<String> due = one.state();
        List<String> got = other.state();
        for (int i = 0; i < Math.max(due.size(), got.size()); i++) {
            String a = i < due.size() ? due.get(i) : "nothing";
            String b = i < got.size() ? got.get(i) : "nothing";
            if (!a.equals(b)) {
                fault(what + ", and then: " + b + "; due is " + a);
            }
        }
    }

    void pages(String what, Book b, int... sets) {
        due(what + ": pages", sets.length, b.count(4));
        for (int i = 0; i < sets.length; i++) {
            due(what + ": page " + i, sets[i], b.page(i));
        }
        due(what + ": no page more", NONE, b.page(sets.length));
    }

    /** Numbers that are not least .. most: the first ones, and such as wrap around in a shift or a cast. */
    static List<Integer> outside(int least, int most) {
        int[] some = {least - 1, least - 2, most + 1, most + 2, -1, -8, -16, -31, -32, -33, -64, -128, -256, -65536,
            16, 31, 32, 33, 64, 128, 255, 256, 256 + least, 65536, 65536 + least, 1 << 30, 1 << 31,
            (1 << 31) + 1, (1 << 31) + least, -1 - (1 << 31), -2 - (1 << 31)};
        List<Integer> out = new ArrayList<>();
        for (int v : some) {
            if ((v < least || v > most) && !out.contains(v)) {
                out.add(v);
            }
        }
        return out;
    }

    /** Says how it went; each promise from first to last must have been spoken of. */
    void end(int first, int last) {
        about = name;
        for (int p = first; p <= last; p++) {
            if (!promises.contains(p)) {
                fault("no test of promise " + p);
            }
        }
        System.out.println(wrong == 0 ? checks + " checks of " + sentences + " sentences hold" : wrong + " faults");
        if (wrong != 0) {
            System.exit(1);
        }
    }
}
