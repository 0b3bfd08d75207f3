import java.util.NoSuchElementException;

/** For each promise of the document: ordinary inputs, the edges it names, and wrong inputs. */
public final class PromiseTest {
    private static final int NONE = -1;
    private static final int THROWN = -1000;
    private static int promise;
    private static int wrong;

    public static void main(String[] args) {
        for (promise = 1; promise <= 24; promise++) {
            test();
        }
        System.out.println(wrong == 0 ? "all 24 promises hold" : wrong + " answers are not as due");
        if (wrong != 0) {
            System.exit(1);
        }
    }

    private static void test() {
        switch (promise) {
            case 1 -> newObject();
            case 2 -> child();
            case 3 -> consent();
            case 4 -> picture();
            case 5 -> face();
            case 6 -> set();
            case 7 -> count();
            case 8 -> told();
            case 9 -> name();
            case 10 -> seen();
            case 11 -> proof();
            case 12 -> shows();
            case 13 -> choose();
            case 14 -> wrong();
            case 15 -> best();
            case 16 -> mend();
            case 17 -> choices();
            case 18 -> lacking();
            case 19 -> fewest();
            case 20 -> lay();
            case 21 -> page();
            case 22 -> left();
            case 23 -> late();
            default -> drop();
        }
    }

    private static void due(String what, int want, int got) {
        if (want != got) {
            wrong++;
            System.out.println("promise " + promise + ": " + what + " answered " + got + ", due is " + want);
        }
    }

    private static void due(String what, boolean want, boolean got) {
        due(what, want ? 1 : 0, got ? 1 : 0);
    }

    private static int told(YearBook b, int picture, int what) {
        try {
            return b.told(picture, what);
        } catch (NoSuchElementException e) {
            return THROWN;
        }
    }

    private static YearBook withChildren(int n) {
        YearBook b = new YearBook();
        for (int i = 0; i < n; i++) {
            b.child(0);
        }
        return b;
    }

    /** Pictures of these sizes, without faces. */
    private static YearBook ofSizes(int... sizes) {
        YearBook b = new YearBook();
        for (int size : sizes) {
            b.picture(0, 1, size);
        }
        return b;
    }

    /** A picture with tiny faces that are far from one another. */
    private static void show(YearBook b, int worth, int... children) {
        int p = b.picture(0, worth, 4);
        for (int i = 0; i < children.length; i++) {
            b.face(p, children[i], i * 10, 0, 1);
        }
    }

    private static void pages(String what, YearBook b, int... sets) {
        due(what + ": pages", sets.length, b.count(4));
        for (int i = 0; i < sets.length; i++) {
            due(what + ": page " + i, sets[i], b.page(i));
        }
    }

    private static void newObject() {
        YearBook b = new YearBook();
        for (int what = 0; what <= 6; what++) {
            due("count(" + what + ")", 0, b.count(what));
        }
        due("told(0, 0)", THROWN, told(b, 0, 0));
        due("seen(0)", NONE, b.seen(0));
        due("shows(0)", 0, b.shows(0));
        due("page(0)", NONE, b.page(0));
        due("late(0)", NONE, b.late(0));
        due("drop(0)", false, b.drop(0));
        due("wrong()", 0, b.wrong());
        due("choices()", 1, b.choices());
        due("best()", 0, b.best());
        due("mend()", 0, b.mend());
        due("lacking()", NONE, b.lacking());
        due("fewest()", 0, b.fewest());
        due("lay()", 0, b.lay());
    }

    private static void child() {
        YearBook b = new YearBook();
        due("class -1", NONE, b.child(-1));
        due("class 10", NONE, b.child(10));
        due("class MIN", NONE, b.child(Integer.MIN_VALUE));
        for (int i = 0; i < 16; i++) {
            due("child " + i, i, b.child(i % 10));
        }
        due("the 17th", NONE, b.child(0));
        due("count(0)", 16, b.count(0));
        due("seen(15)", 0, b.seen(15));
        due("seen(16)", NONE, b.seen(16));
    }

    private static void consent() {
        YearBook b = withChildren(1);
        b.picture(0, 0, 1);
        b.picture(2, 0, 1);
        b.face(0, 0, 5, 5, 0);
        b.face(1, 0, 5, 5, 0);
        due("all at first", 7, b.consent(0, 4));
        due("kind 0 is not good", 0, told(b, 0, 4));
        due("kind 2 is good", 1, told(b, 1, 4));
        due("bits 8", NONE, b.consent(0, 8));
        due("bits -1", NONE, b.consent(0, -1));
        due("child 1", NONE, b.consent(1, 7));
        due("child -1", NONE, b.consent(-1, 7));
        due("nothing changed", 4, b.consent(0, 0));
        due("none", 0, b.count(5));
        due("to none", 0, b.consent(0, 7));
        due("both", 3, b.count(5));
    }

    private static void picture() {
        YearBook b = new YearBook();
        int[][] refused = {{-1, 0, 1}, {3, 0, 1}, {0, -1, 1}, {0, 101, 1}, {0, 0, 0}, {0, 0, 13}, {0, 0, -5}};
        for (int[] r : refused) {
            due(java.util.Arrays.toString(r), NONE, b.picture(r[0], r[1], r[2]));
        }
        due("none yet", 0, b.count(1));
        due("least", 0, b.picture(0, 0, 1));
        due("most", 1, b.picture(2, 100, 12));
        for (int i = 2; i < 14; i++) {
            due("picture " + i, i, b.picture(1, 50, 6));
        }
        due("the 15th", NONE, b.picture(1, 50, 6));
        due("count(1)", 14, b.count(1));
        due("kind", 2, told(b, 1, 0));
        due("worth", 100, told(b, 1, 1));
        due("size", 12, told(b, 1, 2));
    }

    private static void face() {
        YearBook b = withChildren(10);
        b.picture(0, 0, 1);
        int[][] refused = {{-1, 0, 0, 0, 0}, {1, 0, 0, 0, 0}, {0, -1, 0, 0, 0}, {0, 10, 0, 0, 0},
            {0, 0, -1, 0, 0}, {0, 0, 100, 0, 0}, {0, 0, 0, -1, 0}, {0, 0, 0, 100, 0},
            {0, 0, 0, 0, -1}, {0, 0, 0, 0, 21}};
        for (int[] r : refused) {
            due(java.util.Arrays.toString(r), NONE, b.face(r[0], r[1], r[2], r[3], r[4]));
        }
        due("no face yet", 0, told(b, 0, 3));
        due("least", 1, b.face(0, 9, 0, 0, 0));
        due("most", 2, b.face(0, 0, 99, 99, 20));
        due("in it", NONE, b.face(0, 9, 50, 50, 1));
        for (int c = 1; c < 7; c++) {
            due("child " + c, c + 2, b.face(0, c, 10, 10, 1));
        }
        due("the 9th", NONE, b.face(0, 8, 10, 10, 1));
        due("faces", 8, told(b, 0, 3));
        due("seen", 0x27F, told(b, 0, 5));
    }

    private static void set() {
        YearBook b = new YearBook();
        int[] first = {10, 0, 14, 14};
        int[] least = {0, 0, 0, 1};
        int[] most = {50, 14, 14, 14};
        for (int what = 0; what < 4; what++) {
            due("too small " + what, NONE, b.set(what, least[what] - 1));
            due("too great " + what, NONE, b.set(what, most[what] + 1));
            due("at first " + what, first[what], b.set(what, least[what]));
            due("least " + what, least[what], b.set(what, most[what]));
            due("most " + what, most[what], b.set(what, first[what]));
        }
        due("what -1", NONE, b.set(-1, 1));
        due("what 4", NONE, b.set(4, 1));
        b.set(2, 3);
        due("low above high", 0, b.set(1, 4));
        due("it stays so", 4, b.set(1, 4));
    }

    private static void count() {
        YearBook b = withChildren(3);
        show(b, 5, 0, 1);
        show(b, 7);
        show(b, 9, 1);
        due("children", 3, b.count(0));
        due("pictures", 3, b.count(1));
        due("no choice", 0, b.count(2));
        b.choose(6);
        due("the choice", 6, b.count(2));
        due("worth, of one that is not good too", 16, b.count(3));
        due("nothing laid", 0, b.count(4));
        b.lay();
        due("laid", 1, b.count(4));
        due("good", 5, b.count(5));
        due("children in good ones", 3, b.count(6));
        due("what 7", NONE, b.count(7));
        due("what -1", NONE, b.count(-1));
        b.drop(1);
        b.drop(2);
        due("an empty page is a page", 1, b.count(4));
    }

    private static void told() {
        YearBook b = withChildren(3);
        b.picture(1, 30, 5);
        for (int side = 6; side <= 9; side++) {
            due("no face: side " + side, NONE, told(b, 0, side));
        }
        b.face(0, 0, 5, 50, 20);
        b.face(0, 1, 60, 40, 10);
        b.face(0, 2, 71, 60, 0);
        b.consent(2, 5);
        int[] want = {1, 30, 5, 3, 1, 3, -15, 30, 70, 70, NONE};
        for (int what = 0; what <= 10; what++) {
            due("told(0, " + what + ")", want[what], told(b, 0, what));
        }
        due("what 11", THROWN, told(b, 0, 11));
        due("what -1", THROWN, told(b, 0, -1));
        due("picture 1", THROWN, told(b, 1, 0));
        due("picture -1", THROWN, told(b, -1, 0));
        touching();
        b.choose(1);
        b.lay();
        due("its page", 0, told(b, 0, 10));
        b.consent(0, 0);
        b.consent(1, 0);
        due("nobody may: good", 0, told(b, 0, 4));
        due("nobody may: seen", 0, told(b, 0, 5));
        due("nobody may: cut", NONE, told(b, 0, 6));
    }

    /** A face of one who may not be seen, at each edge and corner of a cut 40 .. 60. */
    private static void touching() {
        int[][] places = {{65, 50, 1}, {66, 50, 0}, {35, 50, 1}, {34, 50, 0}, {50, 65, 1}, {50, 66, 0},
            {50, 35, 1}, {50, 34, 0}, {65, 65, 1}, {66, 65, 0}, {65, 66, 0}, {34, 35, 0}, {35, 35, 1}, {50, 50, 1}};
        for (int[] place : places) {
            YearBook b = withChildren(2);
            b.picture(0, 1, 1);
            b.face(0, 0, 50, 50, 10);
            b.face(0, 1, place[0], place[1], 5);
            b.consent(1, 6);
            due("touching at " + place[0] + ", " + place[1], 1 - place[2], told(b, 0, 4));
            due("touching seen at " + place[0] + ", " + place[1], 1 - place[2], told(b, 0, 5));
            due("its cut is told all the same", 60, told(b, 0, 8));
        }
    }

    private static void names(String what, YearBook b, int... want) {
        for (int i = 0; i < want.length; i++) {
            due(what + ": name " + i, want[i], b.name(0, i));
        }
        due(what + ": behind the last", NONE, b.name(0, want.length));
    }

    private static void name() {
        YearBook b = withChildren(7);
        b.picture(0, 1, 1);
        names("no face", b);
        b.face(0, 6, 80, 20, 0);
        b.face(0, 5, 10, 30, 0);
        b.face(0, 4, 50, 31, 0);
        b.face(0, 3, 50, 21, 0);
        b.face(0, 2, 50, 20, 0);
        b.face(0, 1, 5, 41, 0);
        names("span 10", b, 5, 2, 3, 6, 1, 4);
        b.set(0, 0);
        names("span 0", b, 2, 6, 3, 5, 4, 1);
        b.set(0, 11);
        names("span 11", b, 5, 2, 3, 4, 6, 1);
        b.set(0, 50);
        names("span 50", b, 1, 5, 2, 3, 4, 6);
        due("name -1", NONE, b.name(0, -1));
        due("name MAX", NONE, b.name(0, Integer.MAX_VALUE));
        due("picture 1", NONE, b.name(1, 0));
        due("picture -1", NONE, b.name(-1, 0));
        b.consent(6, 0);
        names("one may not, at the edge", b, 1, 5, 2, 3, 4);
        b.consent(5, 0);
        due("it is not good", NONE, b.name(0, 0));
    }

    private static YearBook threeOfOne() {
        YearBook b = withChildren(3);
        show(b, 1, 0, 1);
        show(b, 1, 1);
        show(b, 1, 1, 2);
        return b;
    }

    private static void seen() {
        YearBook b = threeOfOne();
        due("no choice", 0, b.seen(1));
        b.choose(5);
        due("child 0", 1, b.seen(0));
        due("child 1", 2, b.seen(1));
        due("child 3", NONE, b.seen(3));
        due("child -1", NONE, b.seen(-1));
        b.face(0, 2, 5, 0, 0);
        b.consent(2, 0);
        due("not good ones do not count", 1, b.seen(1));
        due("who may not", 0, b.seen(2));
    }

    private static void proof() {
        YearBook b = threeOfOne();
        b.choose(6);
        due("first", 1, b.proof(1, 0));
        due("second", 2, b.proof(1, 1));
        due("third", NONE, b.proof(1, 2));
        due("none", NONE, b.proof(0, 0));
        due("-1", NONE, b.proof(1, -1));
        due("child 3", NONE, b.proof(3, 0));
        due("child -1", NONE, b.proof(-1, 0));
        b.consent(2, 0);
        due("another stands apart", 2, b.proof(1, 1));
        b.face(2, 0, 10, 0, 0);
        due("not good", NONE, b.proof(1, 1));
    }

    private static void shows() {
        YearBook b = new YearBook();
        b.child(3);
        b.child(3);
        b.child(9);
        show(b, 1, 0, 1);
        show(b, 1, 1, 2);
        show(b, 1, 2);
        due("no choice", 0, b.shows(3));
        b.choose(7);
        due("class 3, each picture once", 2, b.shows(3));
        due("class 9", 2, b.shows(9));
        due("class 0", 0, b.shows(0));
        due("class 10", NONE, b.shows(10));
        due("class -1", NONE, b.shows(-1));
        b.consent(2, 0);
        due("who may not", 0, b.shows(9));
    }

    private static void choose() {
        YearBook b = ofSizes(4, 4);
        due("all", true, b.choose(3));
        due("it is so", 3, b.count(2));
        b.lay();
        due("picture 2", false, b.choose(4));
        due("one too many", false, b.choose(7));
        due("below 0", false, b.choose(-1));
        due("MIN", false, b.choose(Integer.MIN_VALUE));
        due("it stays", 3, b.count(2));
        due("laid still", 1, b.count(4));
        due("the same", true, b.choose(3));
        due("not laid then", 0, b.count(4));
        due("none", true, b.choose(0));
        YearBook full = ofSizes(1, 1, 1, 1, 1, 1, 1, 1, 1, 1, 1, 1, 1, 1);
        due("all 14", true, full.choose(16383));
        due("a 15th", false, full.choose(16384));
    }

    private static void wrong() {
        YearBook b = withChildren(3);
        show(b, 1, 0);
        show(b, 1, 0, 1);
        show(b, 1);
        due("no bounds", 0, b.wrong());
        b.set(1, 1);
        b.set(2, 1);
        b.choose(7);
        due("not good first", 1, b.wrong());
        b.choose(3);
        due("more than high", 3, b.wrong());
        b.choose(1);
        due("less than low", 2, b.wrong());
        b.choose(2);
        due("it fits; child 2 does not count", 0, b.wrong());
        show(b, 1, 2);
        b.choose(3);
        due("both less and more: less", 2, b.wrong());
        b.set(1, 2);
        b.choose(2);
        due("low above high", 2, b.wrong());
    }

    private static void best() {
        YearBook b = withChildren(3);
        show(b, 5, 0);
        show(b, 5, 0, 1);
        show(b, 0, 1);
        show(b, 5, 0);
        show(b, 99);
        due("those without worth are left out", 15, b.best());
        due("the good ones of worth", 11, b.count(2));
        b.set(2, 1);
        due("of equal worth: fewest, then least", 5, b.best());
        due("the least", 1, b.count(2));
        b.set(1, 1);
        due("each just once", 5, b.best());
        due("fewest", 2, b.count(2));
        b.lay();
        b.set(1, 2);
        due("none fits", NONE, b.best());
        due("it stays", 2, b.count(2));
        due("laid still", 1, b.count(4));
        b.set(1, 1);
        due("once more", 5, b.best());
        due("nothing laid then", 0, b.count(4));
        YearBook equal = oneOrTwo();
        due("ten in two ways", 10, equal.best());
        due("the fewest pictures, though of a greater number", 4, equal.count(2));
    }

    /** Two children, at most once each: pictures 0 and 1, or 2 alone, or 3 alone, for the same worth. */
    private static YearBook oneOrTwo() {
        YearBook b = withChildren(2);
        show(b, 5, 0);
        show(b, 5, 1);
        show(b, 10, 0, 1);
        show(b, 10, 1, 0);
        b.set(2, 1);
        return b;
    }

    private static void mend() {
        YearBook b = withChildren(2);
        show(b, 5, 0);
        show(b, 9, 0);
        show(b, 9, 1);
        show(b, 9, 1);
        show(b, 50, 0, 1);
        show(b, 70);
        b.set(1, 1);
        b.set(2, 1);
        b.choose(1);
        due("one comes: of equal ones of most worth, then the least", 1, b.mend());
        due("so", 5, b.count(2));
        b.lay();
        due("nothing to do", 0, b.mend());
        due("nothing laid then", 0, b.count(4));
        b.choose(0);
        due("the one with both is nearer", 1, b.mend());
        due("it", 16, b.count(2));
        b.choose(32 | 15);
        due("what is not good goes", 3, b.mend());
        due("of most worth", 6, b.count(2));
        b.lay();
        b.set(1, 3);
        due("none fits", NONE, b.mend());
        due("it stays", 6, b.count(2));
        due("laid still", 1, b.count(4));
        b.set(1, 0);
        b.set(2, 14);
        due("what fits stays, though there is more worth", 0, b.mend());
        due("so", 6, b.count(2));
        YearBook equal = oneOrTwo();
        equal.set(1, 1);
        equal.choose(9);
        due("the one that is too much goes", 1, equal.mend());
        due("so", 8, equal.count(2));
        equal.choose(5);
        due("picture 2 stays, or 1 comes for it: nearest", 1, equal.mend());
        due("so", 4, equal.count(2));
    }

    private static void choices() {
        YearBook b = withChildren(4);
        show(b, 1, 0);
        show(b, 1, 0, 1);
        show(b, 1, 1, 2);
        show(b, 1);
        due("all sets of good ones", 8, b.choices());
        b.set(2, 1);
        due("at most once", 5, b.choices());
        b.set(1, 1);
        due("just once", 1, b.choices());
        b.set(1, 2);
        due("low above high", 0, b.choices());
        due("none chosen", 0, b.count(2));
        YearBook none = withChildren(2);
        none.set(1, 3);
        due("without children that count, none of the pictures fits", 1, none.choices());
        YearBook full = withChildren(1);
        for (int i = 0; i < 14; i++) {
            show(full, 1, 0);
        }
        due("all 14", 16384, full.choices());
        full.set(1, 7);
        full.set(2, 7);
        due("seven of 14", 3432, full.choices());
    }

    private static void lacking() {
        YearBook b = withChildren(3);
        show(b, 1, 0, 1);
        show(b, 1, 0);
        due("low 0", NONE, b.lacking());
        b.set(1, 1);
        due("one in no picture", 2, b.lacking());
        b.set(1, 2);
        due("the least", 1, b.lacking());
        b.consent(0, 0);
        due("one that may not be seen", 0, b.lacking());
        YearBook all = withChildren(1);
        show(all, 1, 0);
        all.set(1, 1);
        due("the choice does not matter", NONE, all.lacking());
    }

    private static void fewest() {
        YearBook b = ofSizes(5, 5, 2, 7, 7, 10, 12, 1);
        due("none", 0, b.fewest());
        b.choose(63);
        due("36 points on three", 3, b.fewest());
        b.choose(63 | 64);
        due("a full one", 4, b.fewest());
        b.choose(255);
        due("a point more", 5, b.fewest());
        b.set(3, 1);
        due("LAST does not matter", 5, b.fewest());
        b.choose(24);
        due("two of 7", 2, b.fewest());
        due("nothing is laid by it", 0, b.count(4));
        YearBook fives = ofSizes(5, 5, 5, 5, 5, 5, 5, 5, 5, 5, 5, 5, 5, 5);
        fives.choose(16383);
        due("14 of 5", 7, fives.fewest());
    }

    private static void lay() {
        YearBook b = ofSizes(5, 5, 2, 7, 7, 10);
        due("none", 0, b.lay());
        b.choose(63);
        due("three", 3, b.lay());
        pages("not {0, 1, 2}, though full: the others need three", b, 9, 18, 36);
        b.set(3, 2);
        due("more than LAST", NONE, b.lay());
        pages("nothing changed", b, 9, 18, 36);
        b.set(3, 3);
        due("just LAST", 3, b.lay());
        YearBook equal = ofSizes(6, 6, 6, 3, 3);
        equal.choose(31);
        due("two", 2, equal.lay());
        pages("of equal points the least number", equal, 3, 28);
        YearBook fuller = ofSizes(4, 1, 8, 7);
        fuller.choose(15);
        due("the fullest", 2, fuller.lay());
        pages("the fullest", fuller, 5, 10);
        YearBook twelves = ofSizes(12, 12, 12, 12, 12, 12, 12, 12, 12, 12, 12, 12, 12, 12);
        twelves.choose(16383);
        due("14 pages", 14, twelves.lay());
        due("the last", 8192, twelves.page(13));
    }

    private static void page() {
        YearBook b = ofSizes(8, 8);
        b.choose(3);
        due("nothing laid", NONE, b.page(0));
        b.lay();
        due("page 0", 1, b.page(0));
        due("page 1", 2, b.page(1));
        due("page 2", NONE, b.page(2));
        due("page -1", NONE, b.page(-1));
        b.drop(0);
        due("empty", 0, b.page(0));
        b.choose(3);
        due("nothing laid again", NONE, b.page(0));
    }

    private static void left() {
        YearBook b = ofSizes(8, 9, 4);
        b.choose(7);
        due("nothing laid", NONE, b.left(0));
        b.lay();
        due("full", 0, b.left(0));
        due("page 1", 3, b.left(1));
        due("page 2", NONE, b.left(2));
        due("page -1", NONE, b.left(-1));
        b.drop(1);
        due("empty", 12, b.left(1));
    }

    private static void late() {
        YearBook b = ofSizes(6, 4, 2, 12, 6, 4, 4, 1, 12);
        b.choose(7);
        due("nothing laid", NONE, b.late(3));
        b.lay();
        due("of the choice", NONE, b.late(0));
        due("picture 9", NONE, b.late(9));
        due("picture -1", NONE, b.late(-1));
        due("a page more", 1, b.late(3));
        due("another", 1, b.late(4));
        due("onto the last", 1, b.late(5));
        pages("so far", b, 7, 8, 48);
        b.drop(2);
        b.set(3, 3);
        due("two pages changed, though one more is not to be had", 2, b.late(6));
        pages("in their order, page 1 as it was", b, 17, 8, 98);
        due("no room", NONE, b.late(7));
        due("not of the choice", 123, b.count(2));
        b.drop(3);
        due("an empty page", 1, b.late(8));
        pages("on it", b, 17, 256, 98);
        due("the choice", 115 | 256, b.count(2));
        lateThreePages();
        YearBook both = ofSizes(8, 8, 4);
        both.choose(3);
        both.lay();
        due("fits on either", 1, both.late(2));
        pages("the least page", both, 5, 2);
        lateAfterLastWasLowered();
    }

    private static void lateThreePages() {
        YearBook b = ofSizes(5, 5, 2, 7, 7, 10);
        b.choose(7);
        b.lay();
        b.late(3);
        b.late(4);
        pages("one each", b, 7, 8, 16);
        due("all three", 3, b.late(5));
        pages("laid anew", b, 9, 18, 36);
    }

    private static void lateAfterLastWasLowered() {
        YearBook b = ofSizes(8, 8, 4, 12);
        b.choose(3);
        b.lay();
        b.set(3, 1);
        due("needs no page more", 1, b.late(2));
        due("needs a page more", NONE, b.late(3));
        pages("as it was", b, 5, 2);
        b.drop(0);
        b.drop(1);
        b.drop(2);
        due("all pages are empty, and laid still", 1, b.late(3));
        pages("onto the first", b, 8, 0);
    }

    private static void drop() {
        YearBook b = ofSizes(8, 8, 4, 1);
        b.choose(7);
        due("nothing laid", false, b.drop(0));
        b.lay();
        due("not of the choice", false, b.drop(3));
        due("picture 4", false, b.drop(4));
        due("picture -1", false, b.drop(-1));
        due("MAX", false, b.drop(Integer.MAX_VALUE));
        due("picture 32", false, b.drop(32));
        due("goes", true, b.drop(2));
        due("from the choice", 3, b.count(2));
        pages("from its page", b, 1, 2);
        due("it is gone", false, b.drop(2));
        due("its page", NONE, told(b, 2, 10));
        due("alone on its page", true, b.drop(0));
        pages("an empty page stays", b, 0, 2);
    }
}
