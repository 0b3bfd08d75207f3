import java.util.ArrayList;
import java.util.Comparator;
import java.util.HashMap;
import java.util.List;
import java.util.Map;
import java.util.NoSuchElementException;

/**
 * The document once more, word by word and without any cleverness: every set is looked at. The
 * random runs hold YearBook against it.
 */
final class PlainBook {
    private static final int NONE = -1;

    private record Face(int child, int x, int y, int r) {
    }

    private static final class Shot {
        int kind;
        int worth;
        int size;
        List<Face> faces = new ArrayList<>();
    }

    private final List<Integer> rooms = new ArrayList<>();
    private final List<Integer> consents = new ArrayList<>();
    private final List<Shot> shots = new ArrayList<>();
    private final Map<Integer, Integer> few = new HashMap<>();
    private int span = 10;
    private int low = 0;
    private int high = 14;
    private int last = 14;
    private int choice = 0;
    private List<Integer> pages = new ArrayList<>();

    int child(int room) {
        if (room < 0 || room > 9 || rooms.size() == 16) {
            return NONE;
        }
        rooms.add(room);
        consents.add(7);
        return rooms.size() - 1;
    }

    int consent(int child, int bits) {
        if (noChild(child) || bits < 0 || bits > 7) {
            return NONE;
        }
        return consents.set(child, bits);
    }

    int picture(int kind, int worth, int size) {
        if (kind < 0 || kind > 2 || worth < 0 || worth > 100 || size < 1 || size > 12 || shots.size() == 14) {
            return NONE;
        }
        Shot s = new Shot();
        s.kind = kind;
        s.worth = worth;
        s.size = size;
        shots.add(s);
        return shots.size() - 1;
    }

    int face(int picture, int child, int x, int y, int r) {
        if (noShot(picture) || noChild(child) || x < 0 || x > 99 || y < 0 || y > 99 || r < 0 || r > 20) {
            return NONE;
        }
        List<Face> faces = shots.get(picture).faces;
        if (faces.size() == 8 || faces.stream().anyMatch(f -> f.child == child)) {
            return NONE;
        }
        faces.add(new Face(child, x, y, r));
        return faces.size();
    }

    int set(int what, int v) {
        int was;
        if (what == 0 && v >= 0 && v <= 50) {
            was = span;
            span = v;
        } else if (what == 1 && v >= 0 && v <= 14) {
            was = low;
            low = v;
        } else if (what == 2 && v >= 0 && v <= 14) {
            was = high;
            high = v;
        } else if (what == 3 && v >= 1 && v <= 14) {
            was = last;
            last = v;
        } else {
            was = NONE;
        }
        return was;
    }

    int count(int what) {
        return switch (what) {
            case 0 -> rooms.size();
            case 1 -> shots.size();
            case 2 -> choice;
            case 3 -> worth(choice);
            case 4 -> pages.size();
            case 5 -> goodBits();
            case 6 -> counted();
            default -> NONE;
        };
    }

    int told(int picture, int what) {
        if (noShot(picture) || what < 0 || what > 10) {
            throw new NoSuchElementException();
        }
        Shot s = shots.get(picture);
        int[] cut = cut(s);
        return switch (what) {
            case 0 -> s.kind;
            case 1 -> s.worth;
            case 2 -> s.size;
            case 3 -> s.faces.size();
            case 4 -> good(s) ? 1 : 0;
            case 5 -> seenBits(s);
            case 10 -> pageOf(picture);
            default -> cut == null ? NONE : cut[what - 6];
        };
    }

    int name(int picture, int i) {
        if (noShot(picture) || !good(shots.get(picture))) {
            return NONE;
        }
        List<Face> left = may(shots.get(picture), true);
        List<Integer> names = new ArrayList<>();
        while (!left.isEmpty()) {
            int top = left.stream().mapToInt(Face::y).min().getAsInt();
            List<Face> row = new ArrayList<>(left.stream().filter(f -> f.y <= top + span).toList());
            left.removeAll(row);
            row.sort(Comparator.comparingInt(Face::x).thenComparingInt(Face::child));
            row.forEach(f -> names.add(f.child));
        }
        return i < 0 || i >= names.size() ? NONE : names.get(i);
    }

    int seen(int child) {
        return noChild(child) ? NONE : proofs(child).size();
    }

    int proof(int child, int i) {
        if (noChild(child)) {
            return NONE;
        }
        List<Integer> all = proofs(child);
        return i < 0 || i >= all.size() ? NONE : all.get(i);
    }

    int shows(int room) {
        if (room < 0 || room > 9) {
            return NONE;
        }
        int n = 0;
        for (int p = 0; p < shots.size(); p++) {
            boolean one = false;
            for (int c = 0; c < rooms.size(); c++) {
                one |= rooms.get(c) == room && has(seenBits(shots.get(p)), c);
            }
            if (one && has(choice, p)) {
                n++;
            }
        }
        return n;
    }

    boolean choose(int bits) {
        if (bits < 0 || bits >= 1 << shots.size()) {
            return false;
        }
        choice = bits;
        pages.clear();
        return true;
    }

    int wrong() {
        for (int p = 0; p < shots.size(); p++) {
            if (has(choice, p) && !good(shots.get(p))) {
                return 1;
            }
        }
        int worst = 0;
        for (int c = 0; c < rooms.size(); c++) {
            if (has(counted(), c)) {
                int n = proofs(c).size();
                if (n < low) {
                    return 2;
                }
                worst = n > high ? 3 : worst;
            }
        }
        return worst;
    }

    int best() {
        int found = NONE;
        for (int s : fitting()) {
            found = found == NONE || better(s, found) ? s : found;
        }
        if (found == NONE) {
            return NONE;
        }
        choice = found;
        pages.clear();
        return worth(choice);
    }

    int mend() {
        int found = NONE;
        for (int s : fitting()) {
            int away = Integer.bitCount(s ^ choice);
            int least = Integer.bitCount(found ^ choice);
            if (found == NONE || away < least || away == least && better(s, found)) {
                found = s;
            }
        }
        if (found == NONE) {
            return NONE;
        }
        int n = Integer.bitCount(found ^ choice);
        choice = found;
        pages.clear();
        return n;
    }

    int choices() {
        return fitting().size();
    }

    int lacking() {
        for (int c = 0; c < rooms.size(); c++) {
            int n = 0;
            for (Shot s : shots) {
                n += has(seenBits(s), c) ? 1 : 0;
            }
            if (n < low) {
                return c;
            }
        }
        return NONE;
    }

    int fewest() {
        return few(choice);
    }

    int lay() {
        List<Integer> anew = laid(choice);
        if (anew.size() > last) {
            return NONE;
        }
        pages = anew;
        return pages.size();
    }

    int page(int page) {
        return page < 0 || page >= pages.size() ? NONE : pages.get(page);
    }

    int left(int page) {
        return page < 0 || page >= pages.size() ? NONE : 12 - points(pages.get(page));
    }

    int late(int picture) {
        if (noShot(picture) || has(choice, picture) || pages.isEmpty()) {
            return NONE;
        }
        int found = 0;
        for (int s = 1; s < 1 << pages.size(); s++) {
            int n = Integer.bitCount(s);
            if ((found == 0 || n < Integer.bitCount(found)) && few(union(s) | 1 << picture) <= n) {
                found = s;
            }
        }
        if (found == 0 && pages.size() + 1 > last) {
            return NONE;
        }
        choice |= 1 << picture;
        if (found == 0) {
            pages.add(1 << picture);
            return 1;
        }
        List<Integer> anew = laid(union(found) | 1 << picture);
        int next = 0;
        for (int p = 0; p < pages.size(); p++) {
            if (has(found, p)) {
                pages.set(p, anew.get(next));
                next++;
            }
        }
        return Integer.bitCount(found);
    }

    boolean drop(int picture) {
        int page = noShot(picture) ? NONE : pageOf(picture);
        if (page == NONE) {
            return false;
        }
        pages.set(page, pages.get(page) & ~(1 << picture));
        choice &= ~(1 << picture);
        return true;
    }

    private boolean noChild(int child) {
        return child < 0 || child >= rooms.size();
    }

    private boolean noShot(int picture) {
        return picture < 0 || picture >= shots.size();
    }

    private static boolean has(int bits, int i) {
        return (bits >> i & 1) == 1;
    }

    private List<Face> may(Shot s, boolean wanted) {
        List<Face> some = new ArrayList<>();
        for (Face f : s.faces) {
            if (has(consents.get(f.child), s.kind) == wanted) {
                some.add(f);
            }
        }
        return some;
    }

    private int[] cut(Shot s) {
        List<Face> shown = may(s, true);
        if (shown.isEmpty()) {
            return null;
        }
        return new int[] {
            shown.stream().mapToInt(f -> f.x - f.r).min().getAsInt(),
            shown.stream().mapToInt(f -> f.y - f.r).min().getAsInt(),
            shown.stream().mapToInt(f -> f.x + f.r).max().getAsInt(),
            shown.stream().mapToInt(f -> f.y + f.r).max().getAsInt()};
    }

    private boolean good(Shot s) {
        int[] cut = cut(s);
        if (cut == null) {
            return false;
        }
        for (Face f : may(s, false)) {
            for (int x = f.x - f.r; x <= f.x + f.r; x++) {
                for (int y = f.y - f.r; y <= f.y + f.r; y++) {
                    if (x >= cut[0] && x <= cut[2] && y >= cut[1] && y <= cut[3]) {
                        return false;
                    }
                }
            }
        }
        return true;
    }

    private int seenBits(Shot s) {
        int bits = 0;
        if (good(s)) {
            for (Face f : may(s, true)) {
                bits |= 1 << f.child;
            }
        }
        return bits;
    }

    private int goodBits() {
        int bits = 0;
        for (int p = 0; p < shots.size(); p++) {
            bits |= good(shots.get(p)) ? 1 << p : 0;
        }
        return bits;
    }

    private int counted() {
        int bits = 0;
        for (Shot s : shots) {
            bits |= seenBits(s);
        }
        return bits;
    }

    private List<Integer> proofs(int child) {
        List<Integer> all = new ArrayList<>();
        for (int p = 0; p < shots.size(); p++) {
            if (has(choice, p) && has(seenBits(shots.get(p)), child)) {
                all.add(p);
            }
        }
        return all;
    }

    private int worth(int set) {
        int sum = 0;
        for (int p = 0; p < shots.size(); p++) {
            sum += has(set, p) ? shots.get(p).worth : 0;
        }
        return sum;
    }

    private boolean better(int a, int b) {
        if (worth(a) != worth(b)) {
            return worth(a) > worth(b);
        }
        int na = Integer.bitCount(a);
        int nb = Integer.bitCount(b);
        return na != nb ? na < nb : a < b;
    }

    private List<Integer> fitting() {
        int good = goodBits();
        int all = counted();
        int[] shown = new int[shots.size()];
        for (int p = 0; p < shown.length; p++) {
            shown[p] = seenBits(shots.get(p));
        }
        List<Integer> some = new ArrayList<>();
        for (int s = 0; s < 1 << shown.length; s++) {
            if ((s & ~good) == 0 && fits(s, all, shown)) {
                some.add(s);
            }
        }
        return some;
    }

    private boolean fits(int set, int all, int[] shown) {
        for (int c = 0; c < rooms.size(); c++) {
            int n = 0;
            for (int p = 0; p < shown.length; p++) {
                n += has(set, p) && has(shown[p], c) ? 1 : 0;
            }
            if (has(all, c) && (n < low || n > high)) {
                return false;
            }
        }
        return true;
    }

    private int points(int set) {
        int sum = 0;
        for (int p = 0; p < shots.size(); p++) {
            sum += has(set, p) ? shots.get(p).size : 0;
        }
        return sum;
    }

    /** One page with the least number, in every way, and then the others. */
    private int few(int set) {
        if (set == 0) {
            return 0;
        }
        Integer known = few.get(set);
        if (known != null) {
            return known;
        }
        int least = 99;
        for (int page : pagesWithLeast(set)) {
            least = Math.min(least, 1 + few(set & ~page));
        }
        few.put(set, least);
        return least;
    }

    private List<Integer> pagesWithLeast(int set) {
        int first = Integer.lowestOneBit(set);
        List<Integer> some = new ArrayList<>();
        for (int sub = set; sub > 0; sub = (sub - 1) & set) {
            if ((sub & first) != 0 && points(sub) <= 12) {
                some.add(sub);
            }
        }
        return some;
    }

    private List<Integer> laid(int set) {
        List<Integer> anew = new ArrayList<>();
        int left = set;
        while (left != 0) {
            int best = 0;
            for (int page : pagesWithLeast(left)) {
                boolean fuller = best == 0 || points(page) > points(best)
                    || points(page) == points(best) && page < best;
                if (fuller && 1 + few(left & ~page) == few(left)) {
                    best = page;
                }
            }
            anew.add(best);
            left &= ~best;
        }
        return anew;
    }

    private int union(int some) {
        int all = 0;
        for (int p = 0; p < pages.size(); p++) {
            all |= has(some, p) ? pages.get(p) : 0;
        }
        return all;
    }

    private int pageOf(int picture) {
        for (int p = 0; p < pages.size(); p++) {
            if (has(pages.get(p), picture)) {
                return p;
            }
        }
        return NONE;
    }
}
