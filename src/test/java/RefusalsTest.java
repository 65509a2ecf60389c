import java.lang.reflect.InvocationTargetException;
import java.lang.reflect.Method;
import java.nio.file.Files;
import java.nio.file.Path;
import java.util.ArrayList;
import java.util.Arrays;
import java.util.HashMap;
import java.util.List;
import java.util.Map;
import java.util.Set;
import java.util.TreeSet;
import java.util.regex.Matcher;
import java.util.regex.Pattern;

/**
 * "Each act tells its ERRORS in the order in which they are asked; one that answers an ERROR changes
 * nothing but what told() tells." Every bound of every argument: the last value that is taken and the
 * first that is refused, on each side. A refused call is put to one of two objects made alike, and then
 * both are looked through with the same calls, to the last sheet and image: all but told() must be alike.
 */
public final class RefusalsTest {
    private static final int LOW = -1000000000;
    private static final int BEYOND = 1;
    private static final int NONE = 2;
    private static final int STATE = 3;
    private static final int FULL = 4;
    private static final int KIND = 5;
    private static final String[] ERRORS = {"", "BEYOND", "NONE", "STATE", "FULL", "KIND"};
    private static final int MIN = Integer.MIN_VALUE;
    private static final int MAX = Integer.MAX_VALUE;
    private static final int MOST_CALLS = 512;
    private static final Path DOCUMENT = Path.of("../shared/DOC.md");

    private static final Map<String, Method> FACE = new HashMap<>();
    private static final Map<Integer, Set<String>> REFUSED = new HashMap<>();
    private static int promise;
    private static int asked;
    private static int wrong;

    public static void main(String[] args) throws Exception {
        for (Method m : RaddleMarks.class.getDeclaredMethods()) {
            if (java.lang.reflect.Modifier.isPublic(m.getModifiers())) {
                FACE.put(m.getName(), m);
            }
        }
        theMoor();
        theSeekers();
        theSheep();
        theTexts();
        theHours();
        whatWouldBe();
        lostAndUnfound();
        voicesAndTrace();
        theSheets();
        moves();
        sheetsAreRead();
        imagesAndTelling();
        askThatAllWereAsked();
        System.out.println("refusals: " + asked + " asked, " + wrong + " wrong");
        if (wrong != 0) {
            System.exit(1);
        }
    }

    // ---- the acts, by the document's order

    private static void theMoor() {
        promise = 2;
        range(Moor.SOME, "snow", 0, 0, 9, 3, 5);
        range(Moor.SOME, "snow", 1, 0, 999, 3, 5);
        promise = 3;
        range(Moor.SOME, "ofCell", 0, 0, 9, 3, 0);
        range(Moor.SOME, "ofCell", 1, 0, 2, 3, 0);
    }

    private static void theSeekers() {
        promise = 4;
        range(Moor.AT_FIRST, "seeker", 0, 0, 9, 3, 5);
        range(Moor.SOME, "seeker", 0, 0, 9, 3, 5);
        range(Moor.SOME, "seeker", 1, 0, 99, 3, 5);
        refused(Moor.FULL_UP, FULL, "seeker", 0, 0);
        refused(Moor.FULL_UP, FULL, "seeker", 9, 99);
        refused(Moor.FULL_UP, BEYOND, "seeker", -1, 0);
        refused(Moor.FULL_UP, BEYOND, "seeker", 10, 0);
        refused(Moor.FULL_UP, BEYOND, "seeker", 0, -1);
        refused(Moor.FULL_UP, BEYOND, "seeker", 0, 100);
        promise = 5;
        refused(Moor.AT_FIRST, BEYOND, "ofSeeker", 0, 0);
        range(Moor.SOME, "ofSeeker", 0, 0, 2, 0, 0);
        range(Moor.SOME, "ofSeeker", 1, 0, 2, 0, 0);
        range(Moor.FULL_UP, "ofSeeker", 0, 0, 5, 0, 2);
        promise = 6;
        refused(Moor.AT_FIRST, BEYOND, "send", 0, 0, 0);
        range(Moor.SOME, "send", 0, 0, 2, 0, 0, 4);
        range(Moor.SOME, "send", 1, 0, 1, 0, 0, 4);
        range(Moor.SOME, "send", 2, 0, 9, 1, 0, 4);
        range(Moor.SOME, "send", 2, 0, 99, 1, 1, 4);
        range(Moor.FULL_UP, "send", 0, 0, 5, 0, 1, 99);
    }

    private static void theSheep() {
        promise = 7;
        range(Moor.SOME, "sheep", 0, 0, 69, 12, 3, 40, 1);
        range(Moor.SOME, "sheep", 1, 0, 9, 12, 3, 40, 1);
        range(Moor.SOME, "sheep", 2, 0, 99, 12, 3, 40, 1);
        range(Moor.SOME, "sheep", 3, 0, 7, 12, 3, 40, 1);
        range(Moor.AT_FIRST, "sheep", 3, 0, 0, 12, 3, 40, 0);
        range(Moor.SIX_OF_EACH, "sheep", 3, 0, 63, 12, 3, 40, 1);
        refused(Moor.FULL_UP, FULL, "sheep", 0, 0, 0, 0);
        refused(Moor.FULL_UP, FULL, "sheep", 69, 9, 99, 63);
        refused(Moor.FULL_UP, BEYOND, "sheep", 70, 0, 0, 0);
        refused(Moor.FULL_UP, BEYOND, "sheep", 0, 10, 0, 0);
        refused(Moor.FULL_UP, BEYOND, "sheep", 0, 0, 100, 0);
        refused(Moor.FULL_UP, BEYOND, "sheep", 0, 0, 0, 64);
        promise = 8;
        refused(Moor.AT_FIRST, BEYOND, "ofSheep", 0, 0);
        range(Moor.SOME, "ofSheep", 0, 0, 4, 0, 0);
        range(Moor.SOME, "ofSheep", 1, 0, 7, 0, 0);
        range(Moor.FULL_UP, "ofSheep", 0, 0, 6, 0, 6);
        promise = 9;
        refused(Moor.AT_FIRST, BEYOND, "change", 0, 0, 0);
        range(Moor.SOME, "change", 0, 0, 4, 0, 3, 1);
        range(Moor.SOME, "change", 1, 0, 3, 0, 3, 1);
        range(Moor.SOME, "change", 2, 0, 9, 0, 0, 1);
        range(Moor.SOME, "change", 2, 0, 99, 0, 1, 1);
        range(Moor.SOME, "change", 2, 0, 7, 0, 2, 1);
        range(Moor.SOME, "change", 2, 0, 1, 0, 3, 1);
        range(Moor.FULL_UP, "change", 2, 0, 63, 6, 2, 1);
        promise = 10;
        refused(Moor.AT_FIRST, BEYOND, "become", 0, 0);
        range(Moor.SOME, "become", 0, 0, 4, 0, 12);
        range(Moor.SOME, "become", 1, 0, 69, 0, 12);
        promise = 11;
        refused(Moor.AT_FIRST, BEYOND, "as", 0, 0);
        range(Moor.SOME, "as", 0, 0, 4, 0, 0);
        range(Moor.SOME, "as", 1, 0, 6, 1, 0);
        refused(Moor.SOME, BEYOND, "as", 5, 6);
        refused(Moor.SOME, KIND, "as", 1, 1);
        refused(Moor.SOME, KIND, "as", 0, 4);
        refused(Moor.SOME, KIND, "as", 2, 1);
    }

    private static void theTexts() {
        promise = 12;
        range(Moor.SOME, "feed", 1, 1, 8, 0x3131313131313131L, 3);
        range(Moor.AT_FIRST, "feed", 1, 1, 8, 0x3131313131313131L, 3);
        for (int n = 1; n <= 8; n++) {
            refused(Moor.FULL_UP, FULL, "feed", -1, n);
        }
        for (int n = 1; n <= 5; n++) {
            taken(Moor.LONG_TAPE, "feed", 0x3131313131313131L, n);
        }
        for (int n = 6; n <= 8; n++) {
            refused(Moor.LONG_TAPE, FULL, "feed", 0x3131313131313131L, n);
        }
        refused(Moor.LONG_TAPE, BEYOND, "feed", 0x3131313131313131L, 9);
        refused(Moor.FULL_UP, BEYOND, "feed", -1, 0);
        refused(Moor.FULL_UP, BEYOND, "feed", -1, 9);
        promise = 13;
        range(Moor.SOME, "text", 0, 0, 1, 0);
        range(Moor.FULL_UP, "text", 0, 0, 1, 0);
        refused(Moor.AT_FIRST, BEYOND, "text", 2);
        refused(Moor.AT_FIRST, BEYOND, "text", -1);
        promise = 14;
        range(Moor.SOME, "law", 0, 0, 1, 0, 1, 2, 3);
        range(Moor.AT_FIRST, "law", 0, 0, 1, 0, MIN, MAX, -1);
    }

    private static void theHours() {
        promise = 15;
        range(Moor.SOME, "hours", 0, 1, 60, 5);
        range(Moor.AT_FIRST, "hours", 0, 1, 60, 5);
        taken(Moor.LATE, "hours", 19);
        for (int n : new int[] {20, 21, 40, 60}) {
            refused(Moor.LATE, STATE, "hours", n);
        }
        refused(Moor.LATE, BEYOND, "hours", 61);
        refused(Moor.LATE, BEYOND, "hours", 0);
        refused(Moor.LAST_HOUR, STATE, "hours", 1);
        refused(Moor.LAST_HOUR, STATE, "hours", 60);
        refused(Moor.LAST_HOUR, BEYOND, "hours", 61);
        refused(Moor.LAST_HOUR, BEYOND, "hours", 0);
        refused(Moor.LAST_HOUR, BEYOND, "hours", MAX);
        refused(Moor.LAST_HOUR, BEYOND, "hours", -1);
        promise = 16;
        range(Moor.SOME, "loose", 0, 1, 40, 5);
        range(Moor.AT_FIRST, "loose", 0, 1, 40, 5);
        taken(Moor.LATE, "loose", 19);
        for (int n : new int[] {20, 21, 40}) {
            refused(Moor.LATE, STATE, "loose", n);
        }
        refused(Moor.LATE, BEYOND, "loose", 41);
        refused(Moor.LAST_HOUR, STATE, "loose", 1);
        refused(Moor.LAST_HOUR, STATE, "loose", 40);
        refused(Moor.LAST_HOUR, BEYOND, "loose", 41);
        refused(Moor.LAST_HOUR, BEYOND, "loose", 0);
        refused(Moor.LAST_HOUR, BEYOND, "loose", MAX);
    }

    private static void whatWouldBe() {
        promise = 17;
        refused(Moor.AT_FIRST, BEYOND, "then", 0, 0, 0);
        range(Moor.SOME, "then", 0, 0, 60, 5, 0, 0);
        range(Moor.SOME, "then", 1, 0, 4, 5, 0, 0);
        range(Moor.SOME, "then", 2, 0, 2, 5, 0, 0);
        range(Moor.LAST_HOUR, "then", 0, 0, 60, 5, 0, 0);
        promise = 18;
        refused(Moor.AT_FIRST, BEYOND, "when", 0);
        range(Moor.SOME, "when", 0, 0, 4, 0);
        promise = 20;
        refused(Moor.AT_FIRST, BEYOND, "add", 0, 0);
        range(Moor.SOME, "add", 0, 0, 4, 0, 20);
        range(Moor.SOME, "add", 1, 0, 20, 4, 5);
        promise = 21;
        refused(Moor.AT_FIRST, BEYOND, "start", 0, 0, 0);
        range(Moor.SOME, "start", 0, 0, 2, 0, 5, 0);
        range(Moor.SOME, "start", 1, 0, 20, 0, 5, 0);
        range(Moor.SOME, "start", 2, 0, 1, 0, 5, 0);
        promise = 22;
        range(Moor.SOME, "missed", 0, 0, 60, 5, 0);
        range(Moor.SOME, "missed", 1, 0, 1, 5, 0);
        promise = 24;
        range(Moor.FOUR_SHEETS, "lies", 0, 0, 3, 0, 1, 0);
        range(Moor.FOUR_SHEETS, "lies", 1, 0, 1, 0, 0, 0);
        range(Moor.FOUR_SHEETS, "lies", 2, 0, 1, 0, 0, 0);
        promise = 25;
        range(Moor.FOUR_SHEETS, "order", 0, 0, 3, 0);
        promise = 26;
        refused(Moor.AT_FIRST, BEYOND, "strong", 0, 0, 0);
        range(Moor.SOME, "strong", 0, 0, 2, 0, 4, 5);
        range(Moor.SOME, "strong", 1, 0, 4, 0, 4, 20);
        range(Moor.SOME, "strong", 2, 0, 20, 0, 4, 5);
        promise = 27;
        refused(Moor.AT_FIRST, BEYOND, "odds", 0, 0, 0);
        range(Moor.SOME, "odds", 0, 0, 4, 0, 5, 0);
        range(Moor.SOME, "odds", 1, 0, 60, 0, 5, 0);
        range(Moor.SOME, "odds", 2, 0, 1, 0, 5, 0);
    }

    /** Sheep 2 of SOME is lost, and 4 is found. */
    private static void lostAndUnfound() {
        promise = 18;
        refused(Moor.SOME, NONE, "when", 2);
        promise = 20;
        refused(Moor.SOME, NONE, "add", 2, 20);
        refused(Moor.SOME, NONE, "add", 0, 0);
        refused(Moor.SOME, BEYOND, "add", 2, 21);
        refused(Moor.SOME, BEYOND, "add", 2, -1);
        promise = 22;
        refused(Moor.AT_FIRST, NONE, "missed", 0, 0);
        refused(Moor.AT_FIRST, NONE, "missed", 60, 1);
        refused(Moor.AT_FIRST, BEYOND, "missed", 61, 0);
        refused(Moor.AT_FIRST, BEYOND, "missed", -1, 0);
        refused(Moor.AT_FIRST, BEYOND, "missed", 0, 2);
        refused(Moor.AT_FIRST, BEYOND, "missed", 0, -1);
        promise = 24;
        taken(Moor.SOME, "lies", 0, 0, 0);
        refused(Moor.SOME, NONE, "lies", 3, 0, 0);
        refused(Moor.SOME, NONE, "lies", 1, 0, 0);
        refused(Moor.SOME, NONE, "lies", 2, 0, 0);
        refused(Moor.SOME, BEYOND, "lies", 3, 5, 0);
        refused(Moor.SOME, BEYOND, "lies", 3, 0, 2);
        refused(Moor.SOME, BEYOND, "lies", 1, -1, 0);
        refused(Moor.SOME, BEYOND, "lies", 1, 0, -1);
        refused(Moor.AT_FIRST, BEYOND, "lies", 0, 0, 0);
        promise = 25;
        refused(Moor.SOME, NONE, "order", 3);
        refused(Moor.AT_FIRST, NONE, "order", 0);
        promise = 26;
        refused(Moor.SOME, NONE, "strong", 0, 2, 20);
        refused(Moor.SOME, NONE, "strong", 0, 0, 0);
        refused(Moor.SOME, BEYOND, "strong", 0, 2, 21);
        refused(Moor.SOME, BEYOND, "strong", 3, 2, 20);
    }

    private static void voicesAndTrace() {
        promise = 29;
        refused(Moor.AT_FIRST, BEYOND, "voice", 0, 0, 0);
        range(Moor.SOME, "voice", 0, 0, 4, 0, 0, 7);
        range(Moor.SOME, "voice", 1, 0, 3, 0, 0, 7);
        promise = 30;
        taken(Moor.SOME, "trace", 0);
        taken(Moor.SOME, "trace", 8);
        for (int i : new int[] {-1, 9, 39, 40, 41, MIN, MAX}) {
            refused(Moor.SOME, NONE, "trace", i);
        }
        refused(Moor.AT_FIRST, NONE, "trace", 0);
    }

    private static void theSheets() {
        promise = 31;
        for (Moor moor : new Moor[] {Moor.AT_FIRST, Moor.SOME}) {
            range(moor, "sheet", 0, 0, 3, 1, 8, 4);
            for (int bits : new int[] {0, 8, 16, 32}) {
                taken(moor, "sheet", 0, bits, 0);
                taken(moor, "sheet", 3, bits, 40);
            }
            for (int bits : new int[] {-1, 1, 7, 9, 15, 17, 24, 31, 33, 64, -8, MIN, MAX}) {
                refused(moor, BEYOND, "sheet", 1, bits, 4);
                refused(moor, BEYOND, "sheet", 1, bits, -1);
            }
            for (int bits : new int[] {8, 16, 32}) {
                refused(moor, STATE, "sheet", 1, bits, -1);
                refused(moor, STATE, "sheet", 1, bits, MIN);
                refused(moor, BEYOND, "sheet", 1, bits, 41);
                refused(moor, BEYOND, "sheet", 1, bits, MAX);
                refused(moor, BEYOND, "sheet", 4, bits, -1);
                refused(moor, BEYOND, "sheet", -1, bits, -1);
            }
            for (int n : new int[] {-1, 41, MIN, MAX}) {
                taken(moor, "sheet", 1, 0, n);
                refused(moor, BEYOND, "sheet", 4, 0, n);
            }
        }
        promise = 32;
        range(Moor.FOUR_SHEETS, "put", 0, 0, 3, 0, 0, 5);
        range(Moor.SOME, "put", 1, 0, 9, 0, 0, 5);
        range(Moor.SOME, "put", 1, 0, 39, 1, 0, 5);
        range(Moor.SOME, "put", 1, 0, 2, 2, 0, 5);
        refused(Moor.SOME, NONE, "put", 3, 0, 5);
        refused(Moor.SOME, NONE, "put", 3, -1, 5);
        refused(Moor.SOME, NONE, "put", 3, 40, 5);
        refused(Moor.SOME, BEYOND, "put", 4, 40, 5);
    }

    /** SOME has sheets of 8 bits and 10 numbers, of 16 and 40, of 32 and 3, and one that is missing. */
    private static void moves() {
        promise = 33;
        range(Moor.FOUR_SHEETS, "move", 0, 0, 3, 0, 1, 3, 2, 4);
        range(Moor.FOUR_SHEETS, "move", 2, 0, 3, 0, 1, 3, 2, 4);
        taken(Moor.SOME, "move", 0, 0, 0, 0, 10);
        taken(Moor.SOME, "move", 1, 0, 1, 0, 40);
        taken(Moor.SOME, "move", 0, 10, 0, 10, 0);
        taken(Moor.SOME, "move", 0, 9, 0, 0, 1);
        taken(Moor.SOME, "move", 0, 0, 0, 9, 1);
        long[][] noSheet = {{-1, 0, 0, 0, 1}, {4, 0, 0, 0, 1}, {0, 0, -1, 0, 1}, {0, 0, 4, 0, 1}, {4, 0, 3, 0, 1},
            {3, 0, 4, 0, 1}, {3, -1, -1, 0, 1}, {-1, 0, 3, 0, -1}, {MIN, 0, 0, 0, 0}, {0, 0, MAX, 0, 0}};
        long[][] missing = {{3, 0, 0, 0, 0}, {0, 0, 3, 0, 0}, {3, 0, 3, 0, 0}, {3, 0, 1, 0, -1}, {2, -1, 3, 0, 1},
            {0, 0, 3, 41, 1}, {3, MAX, 0, MIN, 1}};
        long[][] unlike = {{0, 0, 1, 0, 0}, {1, 0, 0, 0, 1}, {0, 0, 2, 0, 1}, {2, 0, 1, 0, 1}, {0, -1, 1, 0, 1},
            {0, 0, 1, -1, 1}, {0, 0, 1, 0, -1}, {0, 11, 1, 0, 0}, {0, 0, 1, 41, 0}, {0, 0, 1, 0, 99}};
        long[][] notThere = {{0, -1, 0, 0, 1}, {0, 0, 0, -1, 1}, {0, 0, 0, 0, -1}, {0, 0, 0, 0, 11}, {0, 1, 0, 0, 10},
            {0, 0, 0, 1, 10}, {0, 10, 0, 0, 1}, {0, 0, 0, 10, 1}, {0, 11, 0, 0, 0}, {0, 0, 0, 11, 0}, {0, -1, 0, 0, 0},
            {0, 0, 0, -1, 0}, {0, 0, 0, 0, MIN}, {0, 0, 0, 0, MAX}, {0, MAX, 0, 0, 1}, {0, 0, 0, MAX, 1},
            {0, 1, 0, 0, MAX}, {0, MAX, 0, MAX, MAX}, {0, MIN, 0, 0, MIN}, {0, 5, 0, 0, -1}, {1, 40, 1, 0, 1},
            {1, 1, 1, 0, 40}};
        refusedAll(Moor.SOME, BEYOND, "move", noSheet);
        refusedAll(Moor.SOME, NONE, "move", missing);
        refusedAll(Moor.SOME, KIND, "move", unlike);
        refusedAll(Moor.SOME, BEYOND, "move", notThere);
    }

    private static void sheetsAreRead() {
        promise = 34;
        range(Moor.FOUR_SHEETS, "snows", 0, 0, 3, 0);
        refused(Moor.SOME, NONE, "snows", 3);
        refused(Moor.AT_FIRST, NONE, "snows", 0);
        promise = 35;
        range(Moor.FOUR_SHEETS, "judge", 0, 0, 3, 0);
        refused(Moor.SOME, NONE, "judge", 3);
        refused(Moor.AT_FIRST, NONE, "judge", 0);
    }

    private static void imagesAndTelling() {
        promise = 37;
        refused(Moor.AT_FIRST, NONE, "restore");
        refused(Moor.LATE, NONE, "restore");
        promise = 38;
        taken(Moor.SOME, "tell", MIN);
        refused(Moor.FULL_UP, FULL, "tell", 5);
        refused(Moor.FULL_UP, FULL, "tell", 0);
        promise = 40;
        range(Moor.SOME, "count", 0, 0, 9, 4);
        promise = 41;
        range(Moor.SOME, "told", 0, 1, 5, 2);
        range(Moor.AT_FIRST, "told", 0, 1, 5, 2);
    }

    /** Each ERROR that a promise of the document names must have been answered above. */
    private static void askThatAllWereAsked() throws Exception {
        if (!Files.isReadable(DOCUMENT)) {
            System.out.println("refusals: " + DOCUMENT + " isn't here to be asked for its ERRORS");
            return;
        }
        String[] sections = Files.readString(DOCUMENT).split("## Promise ");
        for (int i = 1; i < sections.length; i++) {
            String section = sections[i].split("\n## ")[0];
            Matcher m = Pattern.compile("\\b(BEYOND|NONE|STATE|FULL|KIND)(?=[.:]| \\()").matcher(section);
            int number = Integer.parseInt(section.substring(0, section.indexOf(':')));
            while (m.find()) {
                tally(REFUSED.getOrDefault(number, Set.of()).contains(m.group(1)),
                    "promise " + number + ": " + m.group(1) + " was never asked for");
            }
        }
        tally(sections.length == 42, "the document has 41 promises, not " + (sections.length - 1));
    }

    // ---- how they are asked

    private static void tally(boolean isRight, String what) {
        asked++;
        if (!isRight) {
            wrong++;
            System.out.println(what);
        }
    }

    /** An argument that is taken from low to high and refused on both sides, the others being such as are taken. */
    private static void range(Moor moor, String name, int index, int low, int high, long... args) {
        for (long v : new long[] {low, high}) {
            taken(moor, name, with(args, index, v));
        }
        for (long v : new long[] {low - 1L, high + 1L, MIN, MAX}) {
            refused(moor, BEYOND, name, with(args, index, v));
        }
    }

    private static long[] with(long[] args, int index, long v) {
        long[] changed = args.clone();
        changed[index] = v;
        return changed;
    }

    private static void taken(Moor moor, String name, long... args) {
        Used one = moor.make();
        List<Integer> ahead = one.told();
        int answer = one.call(name, args);
        String what = "promise " + promise + ", " + moor + ": " + one.latest + " answered " + answer;
        tally(answer >= LOW || answer < LOW - KIND, what + ", but is to be taken");
        tally(one.told().equals(ahead), what + ", but told() has counted it");
    }

    private static void refusedAll(Moor moor, int error, String name, long[][] calls) {
        for (long[] args : calls) {
            refused(moor, error, name, args);
        }
    }

    private static void refused(Moor moor, int error, String name, long... args) {
        REFUSED.computeIfAbsent(promise, k -> new TreeSet<>()).add(ERRORS[error]);
        Used one = moor.make();
        Used twin = moor.make();
        int answer = one.call(name, args);
        String what = "promise " + promise + ", " + moor + ": " + one.latest;
        tally(answer == LOW - error, what + " answered " + answer + ", due is " + ERRORS[error]);
        List<Integer> told = twin.told();
        told.set(error - 1, told.get(error - 1) + 1);
        List<Integer> toldOfOne = one.told();
        tally(toldOfOne.equals(told), what + ": told() tells " + toldOfOne + ", due is " + told);
        List<String> is = one.lookThrough();
        List<String> due = twin.lookThrough();
        int same = 0;
        while (same < Math.min(is.size(), due.size()) && is.get(same).equals(due.get(same))) {
            same++;
        }
        boolean isSame = same == is.size() && same == due.size();
        tally(isSame, isSame ? "" : what + " changed " + is.subList(same, is.size()) + ", due is "
            + due.subList(same, due.size()));
        tally(one.calls <= MOST_CALLS, what + ": the test itself made " + one.calls + " calls");
    }

    /** The moors to which calls are put. */
    private enum Moor {
        AT_FIRST, SOME, SIX_OF_EACH, LONG_TAPE, FULL_UP, LATE, LAST_HOUR, FOUR_SHEETS;

        Used make() {
            Used x = new Used();
            switch (this) {
                case SOME: x.beSome(); break;
                case SIX_OF_EACH: x.beManyOf(6); break;
                case LONG_TAPE: x.feed("1+2+3+4+5+6+7+8+9+1+2+3+4+5+6+7+8+9+1+2+3+4+5"); break;
                case FULL_UP: x.beManyOf(7); x.fillUp(); break;
                case LATE: x.beAtHour(9980); break;
                case LAST_HOUR: x.beAtHour(9999); break;
                case FOUR_SHEETS: x.haveFourSheets(); break;
                default: break;
            }
            return x;
        }
    }

    /** An object whose calls are counted, as the document speaks of 512 of them and no more. */
    private static final class Used {
        private final RaddleMarks x = new RaddleMarks();
        private int calls;
        private String latest;

        int call(String name, long... args) {
            Method m = FACE.get(name);
            Object[] given = new Object[args.length];
            for (int i = 0; i < args.length; i++) {
                if (m.getParameterTypes()[i] == long.class) {
                    given[i] = args[i];
                } else {
                    given[i] = (int) args[i];
                }
            }
            calls++;
            latest = name + Arrays.toString(given).replace('[', '(').replace(']', ')');
            try {
                return (int) m.invoke(x, given);
            } catch (InvocationTargetException | IllegalAccessException e) {
                throw new IllegalStateException(latest, e);
            }
        }

        // ---- making

        void feed(String text) {
            for (int i = 0; i < text.length(); i += 8) {
                long word = 0;
                int n = Math.min(8, text.length() - i);
                for (int j = 0; j < n; j++) {
                    word |= (long) text.charAt(i + j) << (8 * j);
                }
                call("feed", word, n);
            }
        }

        void text(int use, String text) {
            feed(text);
            call("text", use);
        }

        void haveSheet(int sheet, int bits, int n) {
            call("sheet", sheet, bits, n);
            for (int i = 0; i < n; i++) {
                call("put", sheet, i, 3 * i + sheet + 1);
            }
        }

        /** The image is of another hour than now, with other texts, snow, sheep, seekers, z, tape and numbers. */
        void beSome() {
            call("seeker", 2, 7);
            call("seeker", 8, 30);
            call("sheep", 14, 3, 50, 3);
            call("sheep", 63, 7, 60, 2);
            call("snow", 5, 11);
            text(0, "c%2+1");
            feed("3*");
            call("tell", 1);
            call("hours", 2);
            call("image");
            call("image");
            call("seeker", 5, 1);
            call("sheep", 5, 0, 0, 7);
            call("sheep", 52, 6, 40, 5);
            call("sheep", 20, 1, 9, 0);
            call("change", 4, 3, 1);
            call("change", 0, 0, 1);
            call("change", 0, 3, 0);
            call("send", 0, 1, 25);
            text(0, "c+h%3");
            text(1, "w>d+m");
            call("seed", 777);
            call("loose", 2);
            call("change", 0, 3, 0);
            call("snow", 1, 40);
            call("check");
            for (int n = 1; n <= 3; n++) {
                call("tell", found(n));
            }
            call("text", 0);
            feed("7+5*2");
            haveSheet(0, 8, 10);
            haveSheet(1, 16, 40);
            haveSheet(2, 32, 3);
            call("voice", 1, 3, 4);
            call("sheet", 3, 8, -1);
            call("order", 3);
            call("order", 3);
        }

        private int found(int behind) {
            int sum = 0;
            for (int sheep = 0; sheep < 5; sheep++) {
                sum += call("then", behind, sheep, 1);
            }
            return sum;
        }

        void beManyOf(int sheep) {
            for (int i = 0; i < 6; i++) {
                call("seeker", i, 10 * i);
            }
            for (int i = 0; i < sheep; i++) {
                call("sheep", 10 * i + 9 - i, 9 - i, 99 - i, 0);
            }
        }

        /** The tape has 50 bytes that are a text of either use; 20 numbers wait, all of them right. */
        void fillUp() {
            feed("1+2+3+4+5+6+7+8+9+1+2+3+4+5+6+7+8+9+1+2+3+4+5*2-99");
            for (int i = 0; i < 20; i++) {
                call("tell", 0);
            }
        }

        void beAtHour(int hour) {
            text(0, "s<40");
            for (int left = hour; left > 0; left -= Math.min(60, left)) {
                call("hours", Math.min(60, left));
            }
            call("seeker", 3, 9);
            call("seeker", 4, 9);
            call("sheep", 14, 6, 50, 3);
            call("sheep", 50, 4, 60, 1);
            feed("1+1");
        }

        void haveFourSheets() {
            call("seeker", 3, 9);
            call("sheep", 14, 6, 50, 1);
            call("sheep", 30, 2, 50, 1);
            for (int sheet = 0; sheet < 4; sheet++) {
                haveSheet(sheet, 16, 10);
            }
        }

        // ---- looking

        List<Integer> told() {
            List<Integer> told = new ArrayList<>();
            for (int k = 1; k <= 5; k++) {
                told.add(call("told", k));
            }
            return told;
        }

        /** All that can be asked of an object, what spoils it last. */
        List<String> lookThrough() {
            List<String> seen = new ArrayList<>();
            lookAtMoor(seen, 8);
            for (int i = 0; i < 9; i++) {
                see(seen, "trace", i);
            }
            see(seen, "check");
            see(seen, "text", 0);
            see(seen, "law", 0, 1, 2, 3);
            see(seen, "law", 0, 9, 50, 23);
            for (int sheet = 0; sheet < 4; sheet++) {
                for (int other = sheet; other < 4; other++) {
                    see(seen, "move", sheet, 0, other, 0, 0);
                }
            }
            for (int sheet = 0; sheet < 4; sheet++) {
                lookAtSheet(seen, sheet);
            }
            see(seen, "restore");
            lookAtMoor(seen, 6);
            see(seen, "check");
            see(seen, "text", 1);
            see(seen, "image");
            return seen;
        }

        private void lookAtMoor(List<String> seen, int ofSheep) {
            for (int what = 0; what < 10; what++) {
                see(seen, "count", what);
                see(seen, "ofCell", what, 0);
            }
            int seekers = call("count", 0);
            for (int i = 0; i < 3 * seekers; i++) {
                see(seen, "ofSeeker", i / 3, i % 3);
            }
            int sheep = call("count", 1);
            for (int i = 0; i < ofSheep * sheep; i++) {
                see(seen, "ofSheep", i / ofSheep, i % ofSheep);
            }
            see(seen, "law", 0, 1, 2, 3);
            see(seen, "law", 0, 8, 50, 23);
            see(seen, "law", 1, 1, 2, 3);
            see(seen, "law", 1, 9, 50, 4);
        }

        /** Ten numbers at a time are moved to the front, become snow, and are read there. */
        private void lookAtSheet(List<String> seen, int sheet) {
            if (call("move", sheet, 0, sheet, 0, 0) != 0) {
                return;
            }
            int size = 0;
            for (int step = 32; step > 0; step /= 2) {
                size += call("move", sheet, size + step, sheet, 0, 0) == 0 ? step : 0;
            }
            seen.add("sheet " + sheet + " has " + size);
            for (int from = 0; from < size; from += 10) {
                see(seen, "move", sheet, from, sheet, 0, Math.min(10, size - from));
                see(seen, "snows", sheet);
                for (int cell = 0; cell < Math.min(10, size - from); cell++) {
                    see(seen, "ofCell", cell, 0);
                }
            }
        }

        private void see(List<String> seen, String name, long... args) {
            int answer = call(name, args);
            seen.add(latest + " " + answer);
        }
    }
}
