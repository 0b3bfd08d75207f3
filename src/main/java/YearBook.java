import java.util.Arrays;
import java.util.NoSuchElementException;

/** A school's book of a year: its children, pictures, the choice of them, and the pages. */
public final class YearBook {
    public static final int NONE = -1;

    private static final int MOST_CHILDREN = 16;
    private static final int MOST_PICTURES = 14;
    private static final int MOST_FACES = 8;
    private static final int CLASSES = 10;
    private static final int ALL_KINDS = 7;
    private static final int POINTS = 12;
    private static final int FAR = 1000;

    private static final int SPAN = 0;
    private static final int LOW = 1;
    private static final int HIGH = 2;
    private static final int LAST = 3;
    private static final int[] LEAST_SETTING = {0, 0, 0, 1};
    private static final int[] MOST_SETTING = {50, 14, 14, 14};

    // A mark is made so that marks can be added up: a point of worth outweighs all
    // pictures and numbers, and a picture less that came or went outweighs all worth.
    private static final long ONE_NEARER = 1L << 32;
    private static final long ONE_OF_WORTH = 1L << 18;
    private static final long ONE_PICTURE = 1L << 14;

    private final int[] rooms = new int[MOST_CHILDREN];
    private final int[] consents = new int[MOST_CHILDREN];
    private int children;
    private final Picture[] pictures = new Picture[MOST_PICTURES];
    private int pictureCount;
    private final int[] settings = {10, 0, 14, 14};
    private int choice;
    private final Chooser chooser = new Chooser();
    private final Pages pages = new Pages();

    public YearBook() {
    }

    public int child(int room) {
        if (!within(room, 0, CLASSES - 1) || children >= MOST_CHILDREN) {
            return NONE;
        }
        rooms[children] = room;
        consents[children] = ALL_KINDS;
        return children++;
    }

    public int consent(int child, int bits) {
        if (!isChild(child) || !within(bits, 0, ALL_KINDS)) {
            return NONE;
        }
        int was = consents[child];
        consents[child] = bits;
        for (int p = 0; p < pictureCount; p++) {
            Picture picture = pictureAt(p);
            if (picture != null) {
                picture.look(consents);
            }
        }
        return was;
    }

    public int picture(int kind, int worth, int size) {
        if (!within(kind, 0, 2) || !within(worth, 0, 100) || !within(size, 1, POINTS)
                || pictureCount >= MOST_PICTURES) {
            return NONE;
        }
        pictures[pictureCount] = new Picture(kind, worth, size);
        pages.hearOf(size);
        return pictureCount++;
    }

    public int face(int picture, int child, int x, int y, int r) {
        Picture in = pictureAt(picture);
        if (in == null || !isChild(child) || !within(x, 0, 99) || !within(y, 0, 99)
                || !within(r, 0, 20) || !in.canHold(child)) {
            return NONE;
        }
        in.add(child, x, y, r);
        in.look(consents);
        return in.faces;
    }

    public int set(int what, int v) {
        if (!within(what, SPAN, LAST) || !within(v, LEAST_SETTING[what], MOST_SETTING[what])) {
            return NONE;
        }
        int was = settings[what];
        settings[what] = v;
        return was;
    }

    public int count(int what) {
        switch (what) {
            case 0: return children;
            case 1: return pictureCount;
            case 2: return choice;
            case 3: return worthOfChoice();
            case 4: return pages.count;
            case 5: return goodPictures();
            case 6: return childrenInGood();
            default: return NONE;
        }
    }

    public int told(int picture, int what) throws NoSuchElementException {
        Picture of = pictureAt(picture);
        if (of == null || !within(what, 0, 10)) {
            throw new NoSuchElementException("no such picture, or nothing such of it");
        }
        switch (what) {
            case 0: return of.kind;
            case 1: return of.worth;
            case 2: return of.size;
            case 3: return of.faces;
            case 4: return of.seen != 0 ? 1 : 0;
            case 5: return of.seen;
            case 10: return pages.pageOf(picture);
            default: return of.edge(what - 6);
        }
    }

    public int name(int picture, int i) {
        Picture of = pictureAt(picture);
        return of == null || of.seen == 0 || i < 0 ? NONE : of.nameAt(i, settings[SPAN]);
    }

    public int seen(int child) {
        return isChild(child) ? chosenShowing(1 << child) : NONE;
    }

    public int proof(int child, int i) {
        if (!isChild(child) || i < 0) {
            return NONE;
        }
        int before = 0;
        for (int p = 0; p < pictureCount; p++) {
            if (isChosen(p) && (shownIn(p) >> child & 1) != 0) {
                if (before == i) {
                    return p;
                }
                before++;
            }
        }
        return NONE;
    }

    public int shows(int room) {
        if (!within(room, 0, CLASSES - 1)) {
            return NONE;
        }
        int ofRoom = 0;
        for (int c = 0; c < children; c++) {
            if (rooms[c] == room) {
                ofRoom |= 1 << c;
            }
        }
        return chosenShowing(ofRoom);
    }

    // ---- the choice

    public boolean choose(int bits) {
        if (bits < 0 || bits >> pictureCount != 0) {
            return false;
        }
        decide(bits);
        return true;
    }

    public int wrong() {
        if ((choice & ~goodPictures()) != 0) {
            return 1;
        }
        int counted = childrenInGood();
        boolean tooOften = false;
        for (int c = 0; c < children; c++) {
            if ((counted >> c & 1) != 0) {
                int times = chosenShowing(1 << c);
                if (times < settings[LOW]) {
                    return 2;
                }
                tooOften |= times > settings[HIGH];
            }
        }
        return tooOften ? 3 : 0;
    }

    public int best() {
        offerPictures(0);
        if (!chooser.findBest()) {
            return NONE;
        }
        decide(chooser.bestSet);
        return worthOfChoice();
    }

    public int mend() {
        offerPictures(ONE_NEARER);
        if (!chooser.findBest()) {
            return NONE;
        }
        int was = choice;
        decide(chooser.bestSet);
        return Integer.bitCount(was ^ choice);
    }

    public int choices() {
        offerPictures(0);
        return chooser.countFitting();
    }

    public int lacking() {
        for (int c = 0; c < children; c++) {
            int times = 0;
            for (int p = 0; p < pictureCount; p++) {
                times += shownIn(p) >> c & 1;
            }
            if (times < settings[LOW]) {
                return c;
            }
        }
        return NONE;
    }

    // ---- pages

    public int fewest() {
        return pages.pagesFor(choice);
    }

    public int lay() {
        return pages.layOut(choice, settings[LAST]);
    }

    public int page(int page) {
        return pages.has(page) ? pages.sets[page] : NONE;
    }

    public int left(int page) {
        return pages.has(page) ? POINTS - pages.pointsOf(pages.sets[page]) : NONE;
    }

    public int late(int picture) {
        if (pictureAt(picture) == null || isChosen(picture) || pages.count == 0) {
            return NONE;
        }
        int changed = pages.bringIn(picture, settings[LAST]);
        if (changed != NONE) {
            choice |= 1 << picture;
        }
        return changed;
    }

    public boolean drop(int picture) {
        if (pictureAt(picture) == null || !pages.takeOut(picture)) {
            return false;
        }
        choice &= ~(1 << picture);
        return true;
    }

    // ---- what the calls share

    private static boolean within(int v, int least, int most) {
        return v >= least && v <= most;
    }

    private boolean isChild(int child) {
        return child >= 0 && child < children;
    }

    private Picture pictureAt(int picture) {
        return picture >= 0 && picture < pictureCount ? pictures[picture] : null;
    }

    private boolean isChosen(int picture) {
        return (choice >> picture & 1) != 0;
    }

    /** Who is seen in a picture, as bits; 0 if it is not good: a good one always shows somebody. */
    private int shownIn(int picture) {
        Picture of = pictureAt(picture);
        return of == null ? 0 : of.seen;
    }

    private int worthOf(int picture) {
        Picture of = pictureAt(picture);
        return of == null ? 0 : of.worth;
    }

    private int worthOfChoice() {
        int sum = 0;
        for (int p = 0; p < pictureCount; p++) {
            if (isChosen(p)) {
                sum += worthOf(p);
            }
        }
        return sum;
    }

    private int goodPictures() {
        int good = 0;
        for (int p = 0; p < pictureCount; p++) {
            if (shownIn(p) != 0) {
                good |= 1 << p;
            }
        }
        return good;
    }

    private int childrenInGood() {
        int shown = 0;
        for (int p = 0; p < pictureCount; p++) {
            shown |= shownIn(p);
        }
        return shown;
    }

    /** How many pictures of the choice show at least one of some children. */
    private int chosenShowing(int some) {
        int n = 0;
        for (int p = 0; p < pictureCount; p++) {
            if (isChosen(p) && (shownIn(p) & some) != 0) {
                n++;
            }
        }
        return n;
    }

    private void decide(int bits) {
        choice = bits;
        pages.clear();
    }

    /** Gives the chooser all good pictures; nearness is what it is worth to leave one as it is. */
    private void offerPictures(long nearness) {
        chooser.begin(settings[LOW], settings[HIGH]);
        for (int p = 0; p < pictureCount; p++) {
            int shown = shownIn(p);
            if (shown != 0) {
                long merit = worthOf(p) * ONE_OF_WORTH - ONE_PICTURE - (1L << p);
                chooser.offer(1 << p, shown, merit + (isChosen(p) ? nearness : -nearness));
            }
        }
        chooser.sumUp();
    }

    /** A picture, its faces, and what follows from the consents: its cut, and who is seen. */
    private static final class Picture {
        private final int kind;
        private final int worth;
        private final int size;
        private int faces;
        private final int[] who = new int[MOST_FACES];
        private final int[] xs = new int[MOST_FACES];
        private final int[] ys = new int[MOST_FACES];
        private final int[] halves = new int[MOST_FACES];
        private int allowed;
        private int seen;
        private final int[] cut = new int[4];

        Picture(int kind, int worth, int size) {
            this.kind = kind;
            this.worth = worth;
            this.size = size;
        }

        boolean canHold(int child) {
            for (int f = 0; f < faces; f++) {
                if (who[f] == child) {
                    return false;
                }
            }
            return faces < MOST_FACES;
        }

        void add(int child, int x, int y, int r) {
            if (faces < MOST_FACES) {
                who[faces] = child;
                xs[faces] = x;
                ys[faces] = y;
                halves[faces] = r;
                faces++;
            }
        }

        /** Finds anew who may be seen, the cut, and whether it is good. */
        void look(int[] consents) {
            allowed = 0;
            int shown = 0;
            for (int f = 0; f < faces; f++) {
                int child = who[f];
                if (child >= 0 && child < consents.length && (consents[child] >> kind & 1) != 0) {
                    allowed |= 1 << f;
                    shown |= 1 << child;
                }
            }
            frame();
            seen = anotherTouchesCut() ? 0 : shown;
        }

        private void frame() {
            cut[0] = FAR;
            cut[1] = FAR;
            cut[2] = -FAR;
            cut[3] = -FAR;
            for (int f = 0; f < faces; f++) {
                if ((allowed >> f & 1) != 0) {
                    cut[0] = Math.min(cut[0], xs[f] - halves[f]);
                    cut[1] = Math.min(cut[1], ys[f] - halves[f]);
                    cut[2] = Math.max(cut[2], xs[f] + halves[f]);
                    cut[3] = Math.max(cut[3], ys[f] + halves[f]);
                }
            }
        }

        private boolean anotherTouchesCut() {
            for (int f = 0; f < faces; f++) {
                if ((allowed >> f & 1) == 0
                        && xs[f] - halves[f] <= cut[2] && xs[f] + halves[f] >= cut[0]
                        && ys[f] - halves[f] <= cut[3] && ys[f] + halves[f] >= cut[1]) {
                    return true;
                }
            }
            return false;
        }

        /** The cut's least x (0), least y (1), greatest x (2), greatest y (3). */
        int edge(int side) {
            return allowed == 0 || side < 0 || side >= cut.length ? NONE : cut[side];
        }

        /** The i-th name: whole rows are passed over until it is in one. */
        int nameAt(int i, int span) {
            int waiting = allowed;
            int before = i;
            for (int rows = 0; rows < MOST_FACES && waiting != 0; rows++) {
                int row = topRow(waiting, span);
                int length = Integer.bitCount(row);
                if (before < length) {
                    return childInRow(row, before);
                }
                before -= length;
                waiting &= ~row;
            }
            return NONE;
        }

        private int topRow(int waiting, int span) {
            int top = FAR;
            for (int f = 0; f < faces; f++) {
                if ((waiting >> f & 1) != 0) {
                    top = Math.min(top, ys[f]);
                }
            }
            int row = 0;
            for (int f = 0; f < faces; f++) {
                if ((waiting >> f & 1) != 0 && ys[f] - top <= span) {
                    row |= 1 << f;
                }
            }
            return row;
        }

        private int childInRow(int row, int i) {
            for (int f = 0; f < faces; f++) {
                if ((row >> f & 1) != 0 && leftOf(f, row) == i) {
                    return who[f];
                }
            }
            return NONE;
        }

        /** How many faces of a row stand before one of it. */
        private int leftOf(int face, int row) {
            int n = 0;
            for (int f = 0; f < faces; f++) {
                if ((row >> f & 1) != 0
                        && (xs[f] < xs[face] || xs[f] == xs[face] && who[f] < who[face])) {
                    n++;
                }
            }
            return n;
        }
    }

    /**
     * Looks through the sets of good pictures for those that fit, and for the one of them with the
     * greatest sum of marks. How often each child is seen stands in one long, four bits a child (14
     * times at most), so that all children are compared with a bound at once.
     */
    private static final class Chooser {
        private static final long EACH_BYTE = 0x0101010101010101L;
        private static final long LOWER_HALVES = 0x0F0F0F0F0F0F0F0FL;
        private static final long TOP_BITS = 0x8080808080808080L;

        private int low;
        private int high;
        private int size;
        private final int[] bits = new int[MOST_PICTURES];
        private final long[] shown = new long[MOST_PICTURES];
        private final long[] marks = new long[MOST_PICTURES];
        // What all pictures from the i-th on show; and of those with a mark above 0, which are
        // wished for, the same, their bits, and the sum of their marks.
        private final long[] shownFrom = new long[MOST_PICTURES + 1];
        private final long[] wishedShownFrom = new long[MOST_PICTURES + 1];
        private final int[] wishedBitsFrom = new int[MOST_PICTURES + 1];
        private final long[] wishedMarksFrom = new long[MOST_PICTURES + 1];
        private long notCounted;
        private boolean found;
        private int bestSet;
        private long bestMark;

        void begin(int least, int most) {
            low = least;
            high = most;
            size = 0;
            notCounted = -1L;
        }

        void offer(int bit, int children, long mark) {
            if (size < MOST_PICTURES) {
                bits[size] = bit;
                shown[size] = inFours(children);
                marks[size] = mark;
                notCounted &= ~(shown[size] * 15);
                size++;
            }
        }

        private static long inFours(int children) {
            long sum = 0;
            for (int c = 0; c < MOST_CHILDREN; c++) {
                if ((children >> c & 1) != 0) {
                    sum |= 1L << 4 * c;
                }
            }
            return sum;
        }

        void sumUp() {
            shownFrom[size] = 0;
            wishedShownFrom[size] = 0;
            wishedBitsFrom[size] = 0;
            wishedMarksFrom[size] = 0;
            for (int i = size - 1; i >= 0; i--) {
                boolean wished = marks[i] > 0;
                shownFrom[i] = shownFrom[i + 1] + shown[i];
                wishedShownFrom[i] = wishedShownFrom[i + 1] + (wished ? shown[i] : 0);
                wishedBitsFrom[i] = wishedBitsFrom[i + 1] | (wished ? bits[i] : 0);
                wishedMarksFrom[i] = wishedMarksFrom[i + 1] + (wished ? marks[i] : 0);
            }
        }

        boolean findBest() {
            found = false;
            searchFrom(0, 0, 0, 0);
            return found;
        }

        int countFitting() {
            return fittingFrom(0, 0);
        }

        /** Pictures before the i-th are settled; the best that the others could add is tried first. */
        private void searchFrom(int i, int set, long counts, long mark) {
            if (i > size || found && mark + wishedMarksFrom[i] <= bestMark || isLost(i, counts)) {
                return;
            }
            long wished = counts + wishedShownFrom[i];
            if (!someAbove(wished) && !someBelow(wished)) {
                found = true;
                bestSet = set | wishedBitsFrom[i];
                bestMark = mark + wishedMarksFrom[i];
                return;
            }
            if (i >= size) {
                return;
            }
            boolean takeFirst = marks[i] > 0;
            if (!takeFirst) {
                searchFrom(i + 1, set, counts, mark);
            }
            searchFrom(i + 1, set | bits[i], counts + shown[i], mark + marks[i]);
            if (takeFirst) {
                searchFrom(i + 1, set, counts, mark);
            }
        }

        private int fittingFrom(int i, long counts) {
            if (i > size || isLost(i, counts)) {
                return 0;
            }
            if (!someBelow(counts) && !someAbove(counts + shownFrom[i])) {
                return 1 << size - i;
            }
            return i >= size ? 0 : fittingFrom(i + 1, counts) + fittingFrom(i + 1, counts + shown[i]);
        }

        /** Whether nothing can fit any more, whichever of the pictures from the i-th on are taken. */
        private boolean isLost(int i, long counts) {
            return someAbove(counts) || someBelow(counts + shownFrom[i]);
        }

        private boolean someAbove(long counts) {
            // A count above the bound carries into the top bit of its byte.
            long lift = (127 - high) * EACH_BYTE;
            long even = (counts & LOWER_HALVES) + lift;
            long odd = (counts >>> 4 & LOWER_HALVES) + lift;
            return ((even | odd) & TOP_BITS) != 0;
        }

        private boolean someBelow(long counts) {
            // Children of no good picture count as seen often, so that they are never below.
            long all = counts | notCounted;
            long lift = (128 - low) * EACH_BYTE;
            long even = (all & LOWER_HALVES) + lift;
            long odd = (all >>> 4 & LOWER_HALVES) + lift;
            return (even & odd & TOP_BITS) != TOP_BITS;
        }
    }

    /** The pages that are laid, and how few pages any set of pictures needs. */
    private static final class Pages {
        private final int[] sizes = new int[MOST_PICTURES];
        private int pictures;
        private final int[] sets = new int[MOST_PICTURES];
        private int count;
        // For each set of the first pictures: its fewest pages, times 16, and then the fewest points
        // on the last of them. The empty set counts as a full page 0, so that a page must be opened.
        private int[] packed = {POINTS};
        private int learnt;
        private int waiting;
        private int pagesForRest;
        private int fullest;
        private int fullestPoints;

        void hearOf(int size) {
            if (pictures < MOST_PICTURES) {
                sizes[pictures] = size;
                pictures++;
            }
        }

        void clear() {
            count = 0;
        }

        boolean has(int page) {
            return page >= 0 && page < count;
        }

        int pageOf(int picture) {
            for (int page = 0; page < count; page++) {
                if ((sets[page] >> picture & 1) != 0) {
                    return page;
                }
            }
            return NONE;
        }

        int pointsOf(int set) {
            int points = 0;
            for (int p = 0; p < pictures; p++) {
                if ((set >> p & 1) != 0) {
                    points += sizes[p];
                }
            }
            return points;
        }

        /** The fewest pages for a set; sizes never change, so what is found once is kept. */
        int pagesFor(int set) {
            for (int p = learnt; p < pictures && set >> p > 0; p++) {
                learnSetsWith(p);
            }
            return set >= 0 && set < packed.length ? packed[set] >> 4 : NONE;
        }

        /** Finds all sets whose greatest number is p: some picture of the set comes last. */
        private void learnSetsWith(int p) {
            int from = 1 << p;
            packed = Arrays.copyOf(packed, from * 2);
            for (int set = from; set < packed.length; set++) {
                int least = FAR;
                for (int last = 0; last <= p; last++) {
                    if ((set >> last & 1) != 0) {
                        least = Math.min(least, withOneMore(packed[set - (1 << last)], sizes[last]));
                    }
                }
                packed[set] = least;
            }
            learnt = p + 1;
        }

        private static int withOneMore(int before, int size) {
            boolean fits = (before & 15) + size <= POINTS;
            return fits ? before + size : (before & ~15) + 16 + size;
        }

        int layOut(int set, int last) {
            int needed = pagesFor(set);
            if (needed > last || needed > MOST_PICTURES || needed < 0) {
                return NONE;
            }
            count = needed;
            layOnto((1 << needed) - 1, set);
            return needed;
        }

        /** Lays a set on just these pages, as many as it needs. */
        private void layOnto(int some, int set) {
            int rest = set;
            for (int page = 0; page < count; page++) {
                if ((some >> page & 1) != 0) {
                    sets[page] = nextPage(rest);
                    rest &= ~sets[page];
                }
            }
        }

        private int nextPage(int rest) {
            waiting = rest;
            pagesForRest = pagesFor(rest) - 1;
            fullest = 0;
            fullestPoints = 0;
            for (int p = 0; p < pictures; p++) {
                if ((rest >> p & 1) != 0) {
                    fillPage(1 << p, sizes[p], p + 1);
                    return fullest;
                }
            }
            return fullest;
        }

        /** Tries a page, and it with each of the pictures from number next on; a point each at least. */
        private void fillPage(int page, int points, int next) {
            boolean better = points > fullestPoints || points == fullestPoints && page < fullest;
            if (better && pagesFor(waiting & ~page) <= pagesForRest) {
                fullest = page;
                fullestPoints = points;
            }
            for (int p = next; p < pictures; p++) {
                if ((waiting >> p & 1) != 0 && points + sizes[p] <= POINTS) {
                    fillPage(page | 1 << p, points + sizes[p], p + 1);
                }
            }
        }

        /** How many pages a late picture changes; NONE if it would need a page behind the last. */
        int bringIn(int picture, int last) {
            int changed = pagesToChange(picture);
            if (changed == 0) {
                if (count >= last || count >= MOST_PICTURES) {
                    return NONE;
                }
                sets[count] = 1 << picture;
                count++;
                return 1;
            }
            int set = 1 << picture;
            for (int page = 0; page < count; page++) {
                if ((changed >> page & 1) != 0) {
                    set |= sets[page];
                }
            }
            layOnto(changed, set);
            return Integer.bitCount(changed);
        }

        private int pagesToChange(int picture) {
            int set = 1 << picture;
            for (int page = 0; page < count; page++) {
                set |= sets[page];
            }
            // If not even all pages together have the points, no search is needed.
            if (pointsOf(set) > count * POINTS) {
                return 0;
            }
            for (int n = 1; n <= count; n++) {
                int found = leastPages(n, count, 1 << picture, n);
                if (found != NONE) {
                    return found;
                }
            }
            return 0;
        }

        /** The least n pages below a limit whose pictures, with others, can be on so many pages. */
        private int leastPages(int n, int limit, int others, int many) {
            if (n <= 0) {
                return pagesFor(others) <= many ? 0 : NONE;
            }
            for (int top = n - 1; top < limit && top < count; top++) {
                int lower = leastPages(n - 1, top, others | sets[top], many);
                if (lower != NONE) {
                    return lower | 1 << top;
                }
            }
            return NONE;
        }

        boolean takeOut(int picture) {
            int page = pageOf(picture);
            if (page == NONE || page >= count) {
                return false;
            }
            sets[page] &= ~(1 << picture);
            return true;
        }
    }
}
