import java.util.ArrayList;
import java.util.Arrays;
import java.util.List;
import java.util.NoSuchElementException;
import java.util.Random;

/** Runs of chosen-by-lot calls (always the same lots), each answer held against PlainBook's. */
public final class RandomRunsTest {
    private static final int MOST_CALLS = 512;
    private static final int FIRST_QUESTION = 5;
    private static final int COUNT = 5;
    private static final int FIRST_CHANGE = 11;
    private static final int PAGE = 19;
    private static final int THROWN = Integer.MIN_VALUE;
    private static final String[] CALLS = {
        "child", "consent", "picture", "face", "set", "count", "told", "name", "seen", "proof", "shows",
        "choose", "wrong", "best", "mend", "choices", "lacking",
        "fewest", "lay", "page", "left", "late", "drop"};
    private static final int[] PARAMETERS = {1, 2, 3, 5, 2, 1, 2, 2, 1, 2, 1, 1, 0, 0, 0, 0, 0, 0, 0, 1, 1, 1, 1};

    private final Random lots;
    private final YearBook book = new YearBook();
    private final PlainBook plain = new PlainBook();
    private final int mostPictures;
    private final int mostSize;
    private final int mostWorth;
    private final int wrongInHundred;
    private final List<String> told = new ArrayList<>();
    private final boolean ofPages;
    private boolean failed;

    private RandomRunsTest(int seed) {
        lots = new Random(seed);
        ofPages = seed % 2 == 0;
        mostPictures = ofPages ? 5 + lots.nextInt(10) : 2 + lots.nextInt(seed % 9 == 0 ? 13 : 9);
        mostSize = new int[] {12, 12, 7, 5, 3, 1}[lots.nextInt(6)];
        mostWorth = new int[] {100, 100, 3, 0}[lots.nextInt(4)];
        wrongInHundred = new int[] {0, 2, 10}[lots.nextInt(3)];
    }

    public static void main(String[] args) {
        int runs = args.length > 0 ? Integer.parseInt(args[0]) : 400;
        int wrong = 0;
        for (int seed = 1; seed <= runs && wrong < 3; seed++) {
            RandomRunsTest run = new RandomRunsTest(seed);
            run.all();
            if (run.failed) {
                wrong++;
                System.out.println("seed " + seed + ":");
                run.told.forEach(System.out::println);
            }
        }
        System.out.println(wrong == 0 ? runs + " runs are as PlainBook's" : wrong + " runs differ");
        if (wrong != 0) {
            System.exit(1);
        }
    }

    private void all() {
        int children = lots.nextInt(17);
        for (int i = 0; i < children; i++) {
            call("child");
        }
        for (int i = 0; i < mostPictures; i++) {
            call("picture");
        }
        int faces = lots.nextInt(mostPictures * (ofPages ? 2 : 7) + 1);
        for (int i = 0; i < faces; i++) {
            call("face");
        }
        while (told.size() < MOST_CALLS && !failed) {
            call(ofPages ? aboutPages() : aboutChoice());
        }
    }

    private String aboutChoice() {
        int lot = lots.nextInt(100);
        return lot < 70 ? CALLS[FIRST_QUESTION + lots.nextInt(CALLS.length - FIRST_QUESTION)]
            : lot < 90 ? "set" : CALLS[lots.nextInt(FIRST_QUESTION)];
    }

    private String aboutPages() {
        int lot = lots.nextInt(100);
        if (plain.count(4) == 0) {
            return lot < 40 ? "choose" : lot < 90 ? "lay" : CALLS[lots.nextInt(CALLS.length)];
        }
        return lot < 45 ? "late" : lot < 70 ? "drop" : lot < 72 ? "lay" : lot < 90 ? "told"
            : CALLS[lots.nextInt(CALLS.length)];
    }

    /** After a call that lays or chooses: the whole choice and all pages. */
    private void compareState() {
        int n = plain.count(4);
        compare(COUNT, 2);
        compare(COUNT, 4);
        for (int page = 0; page < n; page++) {
            compare(PAGE, page);
        }
    }

    private void call(String name) {
        int which = List.of(CALLS).indexOf(name);
        if (name.equals("picture") && plain.count(1) >= mostPictures && lots.nextInt(4) != 0) {
            return;
        }
        int[] a = new int[PARAMETERS[which]];
        for (int i = 0; i < a.length; i++) {
            a[i] = argument(name, i, a);
        }
        compare(which, a);
        if (which >= FIRST_CHANGE && which != PAGE) {
            compareState();
        }
    }

    private void compare(int which, int... a) {
        if (failed || told.size() >= MOST_CALLS) {
            return;
        }
        int got = answer(which, a, true);
        int due = answer(which, a, false);
        told.add("  " + CALLS[which] + Arrays.toString(a) + " answered " + got + ", due is " + due);
        failed = got != due;
    }

    private int argument(String name, int i, int[] before) {
        if (lots.nextInt(100) < wrongInHundred) {
            int[] odd = {-1, -2, 15, 16, 17, 100, 101, 21, 13, 51, Integer.MAX_VALUE, Integer.MIN_VALUE, 31, 32, 33};
            return odd[lots.nextInt(odd.length)];
        }
        int child = lots.nextInt(Math.max(1, plain.count(0)));
        int picture = lots.nextInt(Math.max(1, plain.count(1)));
        return switch (name) {
            case "child", "shows" -> lots.nextInt(3) == 0 ? lots.nextInt(10) : lots.nextInt(3);
            case "consent" -> i == 0 ? child : lots.nextInt(3) == 0 ? lots.nextInt(8) : 7;
            case "picture" -> i == 0 ? lots.nextInt(3) : i == 1 ? lots.nextInt(mostWorth + 1) : 1 + lots.nextInt(mostSize);
            case "face" -> i == 0 ? picture : i == 1 ? child : i == 4 ? lots.nextInt(lots.nextInt(21) + 1) : lots.nextInt(100);
            case "set" -> i == 0 ? lots.nextInt(4) : setting(before[0]);
            case "count" -> lots.nextInt(7);
            case "told" -> i == 0 ? picture : lots.nextInt(11);
            case "name" -> i == 0 ? picture : lots.nextInt(9);
            case "seen", "proof" -> i == 0 ? child : lots.nextInt(5);
            case "choose" -> lots.nextInt(1 << plain.count(1));
            case "page", "left" -> lots.nextInt(Math.max(1, plain.count(4)) + 1);
            default -> picture;
        };
    }

    private int setting(int what) {
        return switch (what) {
            case 0 -> lots.nextInt(51);
            case 1 -> lots.nextInt(4);
            case 2 -> lots.nextInt(6) + (lots.nextBoolean() ? 1 : 8);
            default -> 1 + lots.nextInt(14);
        };
    }

    private int answer(int which, int[] a, boolean real) {
        try {
            return real ? ofBook(which, a) : ofPlain(which, a);
        } catch (NoSuchElementException e) {
            return THROWN;
        }
    }

    private int ofBook(int which, int[] a) {
        return switch (which) {
            case 0 -> book.child(a[0]);
            case 1 -> book.consent(a[0], a[1]);
            case 2 -> book.picture(a[0], a[1], a[2]);
            case 3 -> book.face(a[0], a[1], a[2], a[3], a[4]);
            case 4 -> book.set(a[0], a[1]);
            case 5 -> book.count(a[0]);
            case 6 -> book.told(a[0], a[1]);
            case 7 -> book.name(a[0], a[1]);
            case 8 -> book.seen(a[0]);
            case 9 -> book.proof(a[0], a[1]);
            case 10 -> book.shows(a[0]);
            case 11 -> book.choose(a[0]) ? 1 : 0;
            case 12 -> book.wrong();
            case 13 -> book.best();
            case 14 -> book.mend();
            case 15 -> book.choices();
            case 16 -> book.lacking();
            case 17 -> book.fewest();
            case 18 -> book.lay();
            case 19 -> book.page(a[0]);
            case 20 -> book.left(a[0]);
            case 21 -> book.late(a[0]);
            default -> book.drop(a[0]) ? 1 : 0;
        };
    }

    private int ofPlain(int which, int[] a) {
        return switch (which) {
            case 0 -> plain.child(a[0]);
            case 1 -> plain.consent(a[0], a[1]);
            case 2 -> plain.picture(a[0], a[1], a[2]);
            case 3 -> plain.face(a[0], a[1], a[2], a[3], a[4]);
            case 4 -> plain.set(a[0], a[1]);
            case 5 -> plain.count(a[0]);
            case 6 -> plain.told(a[0], a[1]);
            case 7 -> plain.name(a[0], a[1]);
            case 8 -> plain.seen(a[0]);
            case 9 -> plain.proof(a[0], a[1]);
            case 10 -> plain.shows(a[0]);
            case 11 -> plain.choose(a[0]) ? 1 : 0;
            case 12 -> plain.wrong();
            case 13 -> plain.best();
            case 14 -> plain.mend();
            case 15 -> plain.choices();
            case 16 -> plain.lacking();
            case 17 -> plain.fewest();
            case 18 -> plain.lay();
            case 19 -> plain.page(a[0]);
            case 20 -> plain.left(a[0]);
            case 21 -> plain.late(a[0]);
            default -> plain.drop(a[0]) ? 1 : 0;
        };
    }
}
