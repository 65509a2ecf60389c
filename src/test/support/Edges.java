import java.nio.file.Files;
import java.nio.file.Path;
import java.util.Map;
import java.util.Set;
import java.util.TreeMap;
import java.util.TreeSet;

/** What the tests of the document's sentences share: sentences, answers that are due, and small moors. */
final class Edges {
    static final int BEYOND = -1000000001;
    static final int NONE = -1000000002;
    static final int STATE = -1000000003;
    static final int FULL = -1000000004;
    static final int KIND = -1000000005;
    static final int MIN = Integer.MIN_VALUE;
    static final int MAX = Integer.MAX_VALUE;

    private static final Path DOCUMENT = Path.of("../shared/DOC.md");

    private final String name;
    private final Map<String, String> sections = new TreeMap<>();
    private final Set<String> quoted = new TreeSet<>();
    private String sentence = "";
    private int askedOfSentence = 1;
    private int sentences;
    private int asked;
    private int wrong;

    Edges(String name) throws Exception {
        this.name = name;
        if (!Files.isReadable(DOCUMENT)) {
            System.out.println(name + ": " + DOCUMENT + " isn't here to be asked for its sentences");
            return;
        }
        for (String section : Files.readString(DOCUMENT).split("(?m)^## ")) {
            sections.put(section.split("[:\n]", 2)[0].trim(), plain(section));
        }
    }

    private static String plain(String text) {
        return text.replaceAll("\\s+", " ");
    }

    /** The sentence that the next answers are due by; it must stand in the document as it is quoted. */
    void says(String section, String words) {
        askThatSomeWasAsked();
        sentence = section + ", \"" + words + "\"";
        askedOfSentence = 0;
        sentences++;
        quoted.add(section);
        if (!sections.isEmpty() && !sections.getOrDefault(section, "").contains(words)) {
            fail("the document does not say so");
        }
    }

    private void askThatSomeWasAsked() {
        if (askedOfSentence == 0) {
            fail("nothing was asked");
        }
    }

    void due(String what, int got, int want) {
        asked++;
        askedOfSentence++;
        if (got != want) {
            fail(what + " answered " + got + ", due is " + want);
        }
    }

    private void fail(String what) {
        wrong++;
        System.out.println(sentence + ": " + what);
    }

    void dueAll(String what, int want, int... got) {
        for (int i = 0; i < got.length; i++) {
            due(what + " (" + i + ")", got[i], want);
        }
    }

    void dueRow(String what, int[] got, int... want) {
        due(what + ", how many", got.length, want.length);
        for (int i = 0; i < Math.min(got.length, want.length); i++) {
            due(what + " (" + i + ")", got[i], want[i]);
        }
    }

    void askThatAllPromisesWereQuoted(int promises) {
        for (int i = 1; i <= promises; i++) {
            if (!quoted.contains("Promise " + i)) {
                fail("and no sentence of promise " + i);
            }
        }
    }

    void end() {
        askThatSomeWasAsked();
        System.out.println(name + ": " + sentences + " sentences, " + asked + " asked, " + wrong + " wrong");
        if (wrong != 0) {
            System.exit(1);
        }
    }

    // ---- small moors

    static void feed(RaddleMarks x, String bytes) {
        for (int i = 0; i < bytes.length(); i += 8) {
            long word = 0;
            int n = Math.min(8, bytes.length() - i);
            for (int j = 0; j < n; j++) {
                word |= (long) bytes.charAt(i + j) << (8 * j);
            }
            x.feed(word, n);
        }
    }

    static int read(RaddleMarks x, int use, String text) {
        feed(x, text);
        return x.text(use);
    }

    /** A moor on which no snow falls. */
    static RaddleMarks still() {
        RaddleMarks x = new RaddleMarks();
        read(x, 0, "0");
        return x;
    }

    /** A seeker with a strength and a sheep with a mark of that one, both in a cell with snow, and none falls. */
    static RaddleMarks dig(int strength, int km, int snow) {
        RaddleMarks x = still();
        x.seeker(4, strength);
        x.sheep(km, 4, 99, 1);
        x.snow(4, snow);
        return x;
    }

    /** 168 calls are made on the way; no snow falls. */
    static RaddleMarks atHour(int hour) {
        RaddleMarks x = still();
        for (int left = hour; left > 0; left -= Math.min(60, left)) {
            x.hours(Math.min(60, left));
        }
        return x;
    }

    static void write(RaddleMarks x, int sheet, int bits, int... numbers) {
        x.sheet(sheet, bits, numbers.length);
        for (int i = 0; i < numbers.length; i++) {
            x.put(sheet, i, numbers[i]);
        }
    }

    static int[] snow(RaddleMarks x) {
        int[] snow = new int[10];
        for (int cell = 0; cell < 10; cell++) {
            snow[cell] = x.ofCell(cell, 0);
        }
        return snow;
    }

    static int[] trace(RaddleMarks x) {
        int[] bodies = new int[x.count(8)];
        for (int i = 0; i < bodies.length; i++) {
            bodies[i] = x.trace(i);
        }
        return bodies;
    }
}
