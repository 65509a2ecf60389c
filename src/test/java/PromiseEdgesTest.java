/** The sentences of the document's promises 1 to 41 that name a bound, each with a test of its own. */
public final class PromiseEdgesTest {
    private static final int BEYOND = Edges.BEYOND;
    private static final int NONE = Edges.NONE;
    private static final int STATE = Edges.STATE;
    private static final int FULL = Edges.FULL;
    private static final int KIND = Edges.KIND;
    private static final int MIN = Edges.MIN;
    private static final int MAX = Edges.MAX;
    private static final int PROMISES = 41;

    private static Edges edges;

    private static void says(int promise, String words) {
        edges.says("Promise " + promise, words);
    }

    private static void due(String what, int got, int want) {
        edges.due(what, got, want);
    }

    public static void main(String[] args) throws Exception {
        edges = new Edges("promises, their edges");
        aNewObject();
        snow();
        ofCell();
        seeker();
        ofSeekerAndSend();
        marks();
        ofSheepAndChange();
        become();
        as();
        feed();
        text();
        faults();
        law();
        hours();
        loose();
        thenWhenSaved();
        addStartMissed();
        nobodyLiesOrder();
        strongAndOdds();
        seedAndVoice();
        trace();
        sheet();
        putInto8Bits();
        putInto16And32Bits();
        move();
        moveAsTheyWere();
        snows();
        judge();
        image();
        restore();
        restoreOfNothing();
        tell();
        check();
        count();
        told();
        edges.askThatAllPromisesWereQuoted(PROMISES);
        edges.end();
    }

    private static void aNewObject() {
        says(1, "All as at first; no SEEKERS, SHEEP.");
        RaddleMarks x = new RaddleMarks();
        for (int k = 1; k <= 5; k++) {
            due("told " + k, x.told(k), 0);
        }
        int[] counts = {0, 0, 0, 0, 0, 0, 0, 0, 0, 1};
        for (int what = 0; what < 10; what++) {
            due("count " + what, x.count(what), counts[what]);
            edges.dueAll("cell " + what, 0, x.ofCell(what, 0), x.ofCell(what, 1), x.ofCell(what, 2));
        }
        edges.dueAll("sets and checks of none", 0, x.saved(), x.nobody(), x.check());
        edges.dueAll("uses without a text", 1, x.law(0, 0, 0, 0), x.law(1, 0, 0, 0));
        edges.dueAll("no seeker, no sheep", BEYOND, x.ofSeeker(0, 0), x.ofSheep(0, 0));
        edges.dueAll("no sheet, trace, image", NONE, x.judge(0), x.judge(1), x.judge(2), x.judge(3), x.trace(0), x.restore());
        due("the first image", x.image(), 1);
        RaddleMarks other = new RaddleMarks();
        other.snow(0, 5);
        other.seed(9);
        due("objects share nothing", new RaddleMarks().count(3), 0);
        due("objects share nothing", new RaddleMarks().count(9), 1);
        due("objects share nothing", other.image(), 1);
    }

    private static void snow() {
        says(2, "SNOW of a CELL becomes v: what it was. BEYOND.");
        RaddleMarks x = new RaddleMarks();
        int[][] calls = {{0, 999, 0}, {0, 0, 999}, {9, 999, 0}, {9, 0, 999}, {0, 1000, BEYOND}, {0, -1, BEYOND},
            {-1, 0, BEYOND}, {10, 0, BEYOND}, {-1, 1000, BEYOND}, {MIN, 0, BEYOND}, {0, MAX, BEYOND}};
        for (int[] call : calls) {
            due("snow(" + call[0] + ", " + call[1] + ")", x.snow(call[0], call[1]), call[2]);
        }
        due("no snow", x.count(3), 0);
        due("seven were refused", x.told(1), 7);
    }

    private static void ofCell() {
        says(3, "what 0 SNOW, 1 SEEKERS AT it, 2 SHEEP in it, as sets. BEYOND.");
        RaddleMarks x = new RaddleMarks();
        for (int i = 0; i < 6; i++) {
            x.seeker(9, 0);
        }
        for (int i = 0; i < 7; i++) {
            x.sheep(0, 0, i, 0);
        }
        x.change(3, 3, 1);
        due("all seekers", x.ofCell(9, 1), 63);
        due("all sheep, lost and found ones, too", x.ofCell(0, 2), 127);
        edges.dueAll("empty", 0, x.ofCell(0, 1), x.ofCell(9, 2), x.ofCell(0, 0));
        edges.dueAll("beyond", BEYOND, x.ofCell(-1, 0), x.ofCell(10, 0), x.ofCell(0, -1), x.ofCell(0, 3), x.ofCell(10, 3));
    }

    private static void seeker() {
        says(4, "A SEEKER AT a CELL, with STRENGTH: the number. BEYOND. FULL.");
        RaddleMarks x = new RaddleMarks();
        for (int i = 0; i < 6; i++) {
            edges.dueAll("beyond ahead of number " + i, BEYOND, x.seeker(10, 0), x.seeker(-1, 0), x.seeker(0, 100),
                x.seeker(0, -1));
            due("number", x.seeker(9, 99), i);
        }
        due("full", x.seeker(9, 99), FULL);
        due("full again", x.seeker(0, 0), FULL);
        edges.dueAll("beyond ahead of full", BEYOND, x.seeker(10, 0), x.seeker(-1, 0), x.seeker(0, 100), x.seeker(0, -1));
        due("six", x.count(0), 6);
        due("all at 9", x.ofCell(9, 1), 63);
    }

    private static void ofSeekerAndSend() {
        says(5, "0 AT, 1 STRENGTH, 2 the SHEEP for which one is OUT now (-1: none). BEYOND.");
        RaddleMarks x = new RaddleMarks();
        due("none is there", x.ofSeeker(0, 0), BEYOND);
        x.seeker(9, 99);
        due("at", x.ofSeeker(0, 0), 9);
        due("strength", x.ofSeeker(0, 1), 99);
        due("out for none", x.ofSeeker(0, 2), -1);
        for (int i = 0; i < 7; i++) {
            x.sheep(0, i, 1, 1);
        }
        due("out for the last", x.ofSeeker(0, 2), 6);
        edges.dueAll("beyond", BEYOND, x.ofSeeker(1, 0), x.ofSeeker(-1, 0), x.ofSeeker(0, 3), x.ofSeeker(0, -1));
        due("-1 is no ERROR", x.told(1), 5);
        says(6, "AT (what 0), STRENGTH (1) of a SEEKER becomes v: what it was. BEYOND.");
        int[][] calls = {{0, 0, 0, 9}, {0, 0, 9, 0}, {0, 1, 0, 99}, {0, 1, 99, 0}, {0, 0, 10, BEYOND}, {0, 0, -1, BEYOND},
            {0, 1, 100, BEYOND}, {0, 1, -1, BEYOND}, {0, 2, 0, BEYOND}, {0, -1, 0, BEYOND}, {1, 0, 0, BEYOND},
            {-1, 0, 0, BEYOND}};
        for (int[] call : calls) {
            due("send(" + call[0] + ", " + call[1] + ", " + call[2] + ")", x.send(call[0], call[1], call[2]), call[3]);
        }
        due("at stays", x.ofSeeker(0, 0), 9);
        due("strength stays", x.ofSeeker(0, 1), 99);
    }

    private static void marks() {
        says(7, "a MARK (of SEEKERS that there are): its number. BEYOND. FULL.");
        for (int seekers = 0; seekers <= 6; seekers++) {
            RaddleMarks x = new RaddleMarks();
            for (int i = 0; i < seekers; i++) {
                x.seeker(0, 0);
            }
            int all = (1 << seekers) - 1;
            due("of none", x.sheep(0, 0, 0, 0), 0);
            due("of all of " + seekers, x.sheep(0, 0, 0, all), 1);
            edges.dueAll("of one more than " + seekers, BEYOND, x.sheep(0, 0, 0, all + 1), x.sheep(0, 0, 0, 2 * all + 1 + 1),
                x.sheep(0, 0, 0, -1), x.sheep(0, 0, 0, MIN), x.sheep(0, 0, 0, MAX));
            due("change to all", x.change(0, 2, all), 0);
            due("change to one more", x.change(0, 2, all + 1), BEYOND);
            due("the mark stays", x.ofSheep(0, 4), all);
        }
        RaddleMarks y = new RaddleMarks();
        for (int i = 0; i < 7; i++) {
            due("number", y.sheep(69, 9, 99, 0), i);
        }
        due("full", y.sheep(69, 9, 99, 0), FULL);
        edges.dueAll("beyond ahead of full", BEYOND, y.sheep(70, 9, 99, 0), y.sheep(69, 10, 99, 0), y.sheep(69, 9, 100, 0),
            y.sheep(69, 9, 99, 1), y.sheep(-1, 9, 99, 0), y.sheep(69, -1, 99, 0), y.sheep(69, 9, -1, 0),
            y.sheep(69, 9, 99, -1));
        due("seven", y.count(1), 7);
    }

    private static void ofSheepAndChange() {
        says(8, "0 KIND, 1 m, 2 CELL, 3 WARMTH, 4 MARK, 5 whether FOUND, 6 HEARD now, 7 COLD now. BEYOND.");
        RaddleMarks x = new RaddleMarks();
        due("none is there", x.ofSheep(0, 0), BEYOND);
        x.seeker(0, 0);
        x.seeker(0, 0);
        x.sheep(69, 9, 99, 3);
        int[] is = {6, 9, 9, 99, 3, 0, 1, 3};
        for (int what = 0; what < 8; what++) {
            due("what " + what, x.ofSheep(0, what), is[what]);
        }
        x.change(0, 3, 1);
        due("whether found", x.ofSheep(0, 5), 1);
        due("heard, of the found, too", x.ofSheep(0, 6), 1);
        due("cold, of the found, too", x.ofSheep(0, 7), 3);
        edges.dueAll("beyond", BEYOND, x.ofSheep(1, 0), x.ofSheep(-1, 0), x.ofSheep(0, 8), x.ofSheep(0, -1));
        says(9, "CELL (what 0), WARMTH (1), MARK (2), FOUND (3: 0, 1) of a SHEEP becomes v: what it was. BEYOND.");
        int[][] calls = {{0, 0, 0, 9}, {0, 0, 9, 0}, {0, 1, 0, 99}, {0, 1, 99, 0}, {0, 2, 0, 3}, {0, 2, 3, 0}, {0, 3, 0, 1},
            {0, 3, 0, 0}, {0, 3, 1, 0}, {0, 3, 1, 1}, {0, 0, 10, BEYOND}, {0, 0, -1, BEYOND}, {0, 1, 100, BEYOND},
            {0, 1, -1, BEYOND}, {0, 2, 4, BEYOND}, {0, 2, -1, BEYOND}, {0, 3, 2, BEYOND}, {0, 3, -1, BEYOND},
            {0, 4, 0, BEYOND}, {0, -1, 0, BEYOND}, {1, 0, 0, BEYOND}, {-1, 0, 0, BEYOND}};
        for (int[] call : calls) {
            due("change(" + call[0] + ", " + call[1] + ", " + call[2] + ")", x.change(call[0], call[1], call[2]), call[3]);
        }
        int[] stays = {6, 9, 9, 99, 3, 1, 1, 3};
        for (int what = 0; what < 8; what++) {
            due("stays " + what, x.ofSheep(0, what), stays[what]);
        }
    }

    private static void become() {
        says(10, "A SHEEP becomes one of a KIND, with m (km): the KIND that it was. BEYOND.");
        RaddleMarks x = new RaddleMarks();
        due("none is there", x.become(0, 0), BEYOND);
        x.seeker(0, 0);
        x.sheep(35, 7, 44, 1);
        x.change(0, 3, 1);
        due("the last", x.become(0, 69), 3);
        due("kind", x.ofSheep(0, 0), 6);
        due("m", x.ofSheep(0, 1), 9);
        due("the first", x.become(0, 0), 6);
        due("kind", x.ofSheep(0, 0), 0);
        due("m", x.ofSheep(0, 1), 0);
        due("the same", x.become(0, 0), 0);
        edges.dueAll("beyond", BEYOND, x.become(0, 70), x.become(0, -1), x.become(1, 0), x.become(-1, 0));
        int[] stays = {0, 0, 7, 44, 1, 1};
        for (int what = 0; what < 6; what++) {
            due("stays " + what, x.ofSheep(0, what), stays[what]);
        }
    }

    private static void as() {
        says(11, "KIND: it isn't of that KIND, nor of one under it.");
        String[] isAs = {"0", "01", "02", "03", "014", "025", "036"};
        RaddleMarks x = new RaddleMarks();
        x.sheep(0, 0, 0, 0);
        for (int kind = 0; kind < 7; kind++) {
            x.become(0, 10 * kind + 9 - kind);
            for (int as = 0; as < 7; as++) {
                due(kind + " as " + as, x.as(0, as), isAs[kind].indexOf('0' + as) >= 0 ? 9 - kind : KIND);
            }
            edges.dueAll("beyond ahead of kind", BEYOND, x.as(0, 7), x.as(0, -1), x.as(1, 6), x.as(-1, 1), x.as(1, 7));
        }
        due("told", x.told(5), 49 - 16);
    }

    private static void feed() {
        says(12, "The n lowest bytes (1 .. 8) of a word, the lowest first, come to THE TAPE: how many there are. BEYOND. FULL.");
        String digits = "1+1+1+1+";
        for (int n = 1; n <= 8; n++) {
            RaddleMarks x = new RaddleMarks();
            long word = 0;
            for (int i = 7; i >= 0; i--) {
                word = word << 8 | digits.charAt(i);
            }
            due("n " + n, x.feed(word, n), n);
            due("n " + n, x.count(6), n);
            due("n " + n, x.text(0), n % 2 == 1 ? 1 : -10 - n);
            due("n " + n, x.law(0, 0, 0, 0), n % 2 == 1 ? (n + 1) / 2 : 1);
        }
        RaddleMarks y = new RaddleMarks();
        edges.dueAll("beyond", BEYOND, y.feed('1', 0), y.feed('1', 9), y.feed('1', -1), y.feed('1', MIN), y.feed('1', MAX));
        due("none came", y.count(6), 0);
        due("a byte above 127 is one byte", y.feed(-1L, 1), 1);
        due("and no text", y.text(0), -10);
        due("the highest byte", y.feed((long) ')' << 56 | 0x31_31_31_28_28_28_28L, 8), 8);
        due("the highest byte", y.text(0), -18);
        fullTapes();
    }

    private static void fullTapes() {
        for (int n = 1; n <= 8; n++) {
            RaddleMarks x = new RaddleMarks();
            Edges.feed(x, "1".repeat(50 - n));
            due("up to 50, by " + n, x.feed(0, n), 50);
            RaddleMarks y = new RaddleMarks();
            Edges.feed(y, "1".repeat(51 - n));
            due("one too many, by " + n, y.feed(0, n), FULL);
            due("none came", y.count(6), 51 - n);
            due("beyond ahead of full", y.feed(0, 9), BEYOND);
        }
    }

    private static void text() {
        says(13, "THE TAPE, which is empty then, is the TEXT of a USE (0, 1), in place of one ahead: 1.");
        for (int use = 0; use < 2; use++) {
            RaddleMarks x = new RaddleMarks();
            due("a text", Edges.read(x, use, "0"), 1);
            due("empty then", x.count(6), 0);
            due("gives", x.law(use, 9, 9, 9), 0);
            due("the other use has none", x.law(1 - use, 9, 9, 9), 1);
            due("another", Edges.read(x, use, "1"), 1);
            due("in place of one ahead", x.law(use, 9, 9, 9), 1);
            for (int i = 0; i < 20; i++) {
                String text = (i % 2 == 0 ? "1" : "0") + "+0".repeat(24);
                due("one of many", Edges.read(x, use, text), 1);
                due("one of many", x.law(use, 9, 9, 9), 1 - i % 2);
                due("and a fault between", Edges.read(x, use, text + "+"), -60);
            }
        }
        says(13, "BEYOND (THE TAPE stays).");
        RaddleMarks y = new RaddleMarks();
        edges.dueAll("beyond ahead of a fault", BEYOND, y.text(2), y.text(-1));
        Edges.feed(y, "0");
        edges.dueAll("beyond", BEYOND, y.text(2), y.text(-1), y.text(MIN), y.text(MAX));
        due("the tape stays", y.count(6), 1);
        due("and is a text", y.text(0), 1);
        due("and is a text", y.law(0, 9, 9, 9), 0);
    }

    private static void faults() {
        says(13, "-10 less the FAULT (no ERROR; the one ahead stays).");
        for (int use = 0; use < 2; use++) {
            RaddleMarks x = new RaddleMarks();
            Edges.read(x, use, "0");
            due("an empty tape", x.text(use), -10);
            due("the first byte", Edges.read(x, use, "x"), -10);
            due("the last byte", Edges.read(x, use, "1" + "+1".repeat(24) + "x"), -59);
            due("too early", Edges.read(x, use, "1+".repeat(25)), -60);
            due("the tape is empty", x.count(6), 0);
            due("the one ahead stays", x.law(use, 9, 9, 9), 0);
            for (int k = 1; k <= 5; k++) {
                due("no error", x.told(k), 0);
            }
        }
    }

    private static void law() {
        says(14, "What a USE gives with its NAMES in order as a, b, c. BEYOND.");
        RaddleMarks x = new RaddleMarks();
        Edges.read(x, 0, "(c=1)*5+(s=2)*7+(h=3)*11");
        Edges.read(x, 1, "d=1&w=2&m=3");
        due("all", x.law(0, 1, 2, 3), 23);
        due("a", x.law(0, 1, 0, 0), 5);
        due("b", x.law(0, 0, 2, 0), 7);
        due("c", x.law(0, 0, 0, 3), 11);
        due("all, of the other", x.law(1, 1, 2, 3), 1);
        edges.dueAll("not all, of the other", 0, x.law(1, 1, 2, 4), x.law(1, 1, 3, 3), x.law(1, 2, 2, 3));
        Edges.read(x, 0, "(c=s)*5+(h>0)");
        due("any ints", x.law(0, MIN, MIN, MAX), 6);
        due("any ints", x.law(0, MAX, MIN, MIN), 0);
        edges.dueAll("beyond", BEYOND, x.law(2, 0, 0, 0), x.law(-1, 0, 0, 0), x.law(MIN, 0, 0, 0), x.law(MAX, 0, 0, 0));
    }

    private static void hours() {
        says(15, "n (1 to 60) HOURS: SHEEP that are FOUND, as a set. BEYOND.");
        RaddleMarks x = Edges.still();
        edges.dueAll("beyond", BEYOND, x.hours(0), x.hours(61), x.hours(-1), x.hours(MIN), x.hours(MAX));
        due("no hour", x.count(2), 0);
        due("one", x.hours(1), 0);
        due("one", x.count(2), 1);
        due("sixty", x.hours(60), 0);
        due("sixty", x.count(2), 61);
        for (int i = 0; i < 7; i++) {
            x.sheep(0, 0, 99, 0);
        }
        due("none is found", x.hours(1), 0);
        x.change(6, 3, 1);
        due("one was found ahead", x.hours(1), 64);
        x.seeker(0, 0);
        for (int i = 0; i < 6; i++) {
            x.change(i, 2, 1);
        }
        due("all are found", x.hours(6), 127);
        says(15, "STATE: HOUR would be above 9999.");
        RaddleMarks y = Edges.atHour(9939);
        due("beyond ahead of state", y.hours(61), BEYOND);
        due("sixty to 9999", y.hours(60), 0);
        due("the last", y.count(2), 9999);
        due("one more", y.hours(1), STATE);
        RaddleMarks z = Edges.atHour(9940);
        due("sixty to 10000", z.hours(60), STATE);
        due("none is gone", z.count(2), 9940);
        due("59 to 9999", z.hours(59), 0);
        edges.dueAll("state", STATE, z.hours(1), z.hours(60));
        edges.dueAll("beyond ahead of state", BEYOND, z.hours(0), z.hours(61), z.hours(MAX));
    }

    private static void loose() {
        says(16, "n (1 to 40) HOURS by draws: likewise. BEYOND.");
        RaddleMarks x = Edges.still();
        edges.dueAll("beyond", BEYOND, x.loose(0), x.loose(41), x.loose(-1), x.loose(MIN), x.loose(MAX));
        due("no hour", x.count(2), 0);
        due("no draw", x.count(9), 1);
        due("one", x.loose(1), 0);
        due("one draw", x.count(9), 1103527590);
        due("forty", x.loose(40), 0);
        due("forty", x.count(2), 41);
        int z = 1;
        for (int i = 0; i < 41; i++) {
            z = z * 1103515245 + 12345;
        }
        due("a draw for each", x.count(9), z);
        x.sheep(0, 0, 99, 0);
        x.change(0, 3, 1);
        due("found ahead", x.loose(1), 1);
        says(16, "STATE: HOUR would be above 9999.");
        RaddleMarks y = Edges.atHour(9960);
        due("forty to 10000", y.loose(40), STATE);
        due("none is gone", y.count(2), 9960);
        due("none is drawn", y.count(9), 1);
        due("39 to 9999", y.loose(39), 0);
        due("the last", y.count(2), 9999);
        edges.dueAll("state", STATE, y.loose(1), y.loose(40));
        edges.dueAll("beyond ahead of state", BEYOND, y.loose(0), y.loose(41), y.loose(MAX));
    }

    private static void thenWhenSaved() {
        says(17, "BEHIND n HOURS, of a SHEEP: what 0 WARMTH, 1 whether FOUND, 2 SNOW of its CELL. BEYOND.");
        RaddleMarks x = Edges.dig(1, 0, 65);
        due("no sheep", new RaddleMarks().then(0, 0, 0), BEYOND);
        due("warmth behind 0", x.then(0, 0, 0), 99);
        due("warmth behind 59", x.then(59, 0, 0), 40);
        due("warmth behind 60, when it is found", x.then(60, 0, 0), 40);
        due("found behind 59", x.then(59, 0, 1), 0);
        due("found behind 60", x.then(60, 0, 1), 1);
        due("snow behind 0", x.then(0, 0, 2), 65);
        due("snow behind 60", x.then(60, 0, 2), 5);
        edges.dueAll("beyond", BEYOND, x.then(-1, 0, 0), x.then(61, 0, 0), x.then(0, 1, 0), x.then(0, -1, 0), x.then(0, 0, 3),
            x.then(0, 0, -1));
        says(18, "NONE: not by 60.");
        due("in the 60th hour", x.when(0), 60);
        x.snow(4, 66);
        due("in the 61st hour", x.when(0), NONE);
        x.change(0, 3, 1);
        due("found now", x.when(0), 0);
        edges.dueAll("beyond", BEYOND, x.when(1), x.when(-1), x.when(MIN), x.when(MAX));
        says(19, "`int saved()`: SAVED.");
        due("found now", x.saved(), 1);
        x.change(0, 3, 0);
        due("in the 61st hour", x.saved(), 0);
        x.snow(4, 65);
        due("in the 60th hour", x.saved(), 1);
        due("no hour is gone", x.count(2), 0);
    }

    private static void addStartMissed() {
        says(20, "ADD: the set. BEYOND. NONE: by none.");
        RaddleMarks x = Edges.dig(1, 0, 25);
        due("none is needed", x.add(0, 20), 0);
        due("by none, as it lacks an hour", x.add(0, 19), NONE);
        x.change(0, 1, 0);
        due("lost", x.add(0, 20), NONE);
        edges.dueAll("beyond ahead of none", BEYOND, x.add(0, 21), x.add(0, -1), x.add(1, 20), x.add(-1, 20));
        due("no sheep", new RaddleMarks().add(0, 0), BEYOND);
        says(21, "START, n 0 to 20: what 0 the CELL, 1 how many. BEYOND.");
        x.change(0, 1, 99);
        due("the cell, behind 20", x.start(0, 20, 0), 4);
        due("how many, behind 20", x.start(0, 20, 1), 1);
        due("the cell, behind 19", x.start(0, 19, 0), 0);
        due("how many, behind 19", x.start(0, 19, 1), 0);
        edges.dueAll("beyond", BEYOND, x.start(0, 21, 0), x.start(0, -1, 0), x.start(0, 0, 2), x.start(0, 0, -1),
            x.start(1, 0, 0), x.start(-1, 0, 0));
        due("no seekers", new RaddleMarks().start(0, 0, 0), BEYOND);
        says(22, "MISSED, n 0 to 60: what 0 the SEEKER, 1 how many. BEYOND. NONE: there are no SEEKERS.");
        x.snow(4, 65);
        x.seeker(9, 0);
        due("the seeker, behind 60", x.missed(60, 0), 0);
        due("how many, behind 60", x.missed(60, 1), 0);
        x.change(0, 2, 2);
        x.send(1, 1, 1);
        x.send(1, 0, 4);
        due("the seeker, behind 60", x.missed(60, 0), 1);
        due("the seeker, behind 59", x.missed(59, 0), 0);
        edges.dueAll("beyond", BEYOND, x.missed(61, 0), x.missed(-1, 0), x.missed(0, 2), x.missed(0, -1));
        RaddleMarks none = new RaddleMarks();
        none.sheep(0, 0, 9, 0);
        edges.dueAll("no seekers", NONE, none.missed(0, 0), none.missed(60, 1));
        edges.dueAll("beyond ahead of none", BEYOND, none.missed(61, 0), none.missed(-1, 0), none.missed(0, 2),
            none.missed(0, -1));
    }

    private static void nobodyLiesOrder() {
        says(23, "NOBODY.");
        RaddleMarks x = Edges.still();
        due("no sheep", x.nobody(), 0);
        x.sheep(0, 9, 0, 0);
        due("lost", x.nobody(), 0);
        x.change(0, 1, 1);
        due("with a warmth of 1", x.nobody(), 1);
        x.change(0, 3, 1);
        due("found", x.nobody(), 0);
        says(24, "NONE: the SHEET is missing, has not ten numbers.");
        for (int n : new int[] {0, 1, 9, 10, 11, 40}) {
            x.sheet(2, 8, n);
            due("of " + n, x.lies(2, 0, 0), n == 10 ? 1023 : NONE);
            due("of " + n + ", how many", x.lies(2, 0, 1), n == 10 ? 10 : NONE);
        }
        due("missing", x.lies(3, 0, 0), NONE);
        edges.dueAll("beyond ahead of none", BEYOND, x.lies(3, 1, 0), x.lies(3, -1, 0), x.lies(3, 0, 2), x.lies(3, 0, -1),
            x.lies(4, 0, 0), x.lies(-1, 0, 0));
        says(25, "ORDER, by a SHEET. BEYOND. NONE: the SHEET is missing.");
        for (int sheet = 0; sheet < 4; sheet++) {
            x.sheet(sheet, 0, 0);
            due("missing", x.order(sheet), NONE);
            x.sheet(sheet, 32, 0);
            due("of none", x.order(sheet), 0);
            x.sheet(sheet, 8, 40);
            due("of forty, of which none is found", x.order(sheet), 0);
        }
        edges.dueAll("beyond", BEYOND, x.order(-1), x.order(4), x.order(MIN), x.order(MAX));
    }

    private static void strongAndOdds() {
        says(26, "STRONG, n 0 to 20. BEYOND. NONE: with none.");
        RaddleMarks x = Edges.dig(0, 0, 999);
        due("with none", x.strong(0, 0, 10), NONE);
        due("with 91", x.strong(0, 0, 11), 91);
        due("behind 20", x.strong(0, 0, 20), 50);
        due("behind none", x.strong(0, 0, 0), NONE);
        x.change(0, 2, 0);
        due("out for none", x.strong(0, 0, 20), NONE);
        edges.dueAll("beyond ahead of none", BEYOND, x.strong(0, 0, 21), x.strong(0, 0, -1), x.strong(1, 0, 20),
            x.strong(-1, 0, 20), x.strong(0, 1, 20), x.strong(0, -1, 20));
        says(27, "ODDS, n 0 to 60: part 0 above, 1 below the line. BEYOND.");
        x.change(0, 2, 1);
        x.send(0, 1, 1);
        x.snow(4, 65);
        due("above, behind 59", x.odds(0, 59, 0), 9);
        due("below, behind 59", x.odds(0, 59, 1), 10);
        due("above, behind 60", x.odds(0, 60, 0), 1);
        due("below, behind 60", x.odds(0, 60, 1), 1);
        due("above, behind 0", x.odds(0, 0, 0), 0);
        due("below, behind 0", x.odds(0, 0, 1), 1);
        edges.dueAll("beyond", BEYOND, x.odds(0, 61, 0), x.odds(0, -1, 0), x.odds(0, 0, 2), x.odds(0, 0, -1), x.odds(1, 0, 0),
            x.odds(-1, 0, 0));
        due("no sheep", new RaddleMarks().odds(0, 0, 0), BEYOND);
    }

    private static void seedAndVoice() {
        says(28, "z becomes v: what it was (any number).");
        RaddleMarks x = new RaddleMarks();
        int was = 1;
        for (int v : new int[] {0, -1, MIN, MAX, BEYOND, NONE, STATE, FULL, KIND, 5}) {
            due("what it was", x.seed(v), was);
            due("what it is", x.count(9), v);
            was = v;
        }
        for (int k = 1; k <= 5; k++) {
            due("no number is an ERROR", x.told(k), 0);
        }
        says(29, "A VOICE of a SHEEP: any number. BEYOND.");
        due("no sheep", x.voice(0, 0, 0), BEYOND);
        x.sheep(0, 0, 0, 0);
        for (int v : new int[] {0, -1, MIN, MAX, BEYOND, NONE, STATE, FULL, KIND}) {
            due("bleats of " + v, x.voice(0, 0, v), v);
            due("shivers of " + v, x.voice(0, 2, v), v);
        }
        due("no number is an ERROR", x.told(1), 1);
        edges.dueAll("beyond", BEYOND, x.voice(1, 0, 0), x.voice(-1, 0, 0), x.voice(0, 4, 0), x.voice(0, -1, 0));
    }

    private static void trace() {
        says(30, "THE TRACE's i-th. NONE: there is none such.");
        RaddleMarks x = new RaddleMarks();
        edges.dueAll("none at first", NONE, x.trace(0), x.trace(-1), x.trace(39), x.trace(40));
        x.sheep(60, 0, 0, 0);
        x.voice(0, 3, 1);
        due("the first", x.trace(0), 71);
        due("the last", x.trace(8), 12);
        edges.dueAll("none such", NONE, x.trace(-1), x.trace(9), x.trace(39), x.trace(40), x.trace(MIN), x.trace(MAX));
        x.voice(0, 0, 1);
        due("the latest", x.trace(0), 10);
        due("the latest alone", x.trace(1), NONE);
        due("told", x.told(2), 11);
    }

    private static void sheet() {
        says(31, "(8, 16, 32; 0: it is missing, n doesn't matter): 1. BEYOND.");
        RaddleMarks x = new RaddleMarks();
        for (int n : new int[] {MIN, -1, 0, 40, 41, MAX}) {
            x.sheet(1, 8, 3);
            due("missing, by " + n, x.sheet(1, 0, n), 1);
            due("missing, by " + n, x.judge(1), NONE);
            due("missing again, by " + n, x.sheet(1, 0, n), 1);
            due("no such sheet, by " + n, x.sheet(4, 0, n), BEYOND);
        }
        for (int bits : new int[] {1, 7, 9, 15, 17, 31, 33, 64, -1, -8, MIN, MAX}) {
            due("bits " + bits, x.sheet(1, bits, 3), BEYOND);
        }
        says(31, "STATE: n is below 0 (ahead of BEYOND of n).");
        for (int bits : new int[] {8, 16, 32}) {
            edges.dueAll("state", STATE, x.sheet(0, bits, -1), x.sheet(3, bits, -41), x.sheet(0, bits, MIN));
            edges.dueAll("beyond", BEYOND, x.sheet(0, bits, 41), x.sheet(0, bits, MAX));
            edges.dueAll("beyond ahead of state", BEYOND, x.sheet(4, bits, -1), x.sheet(-1, bits, -1));
            due("still missing", x.judge(0), NONE);
        }
        due("beyond of the bits ahead of state", x.sheet(0, 9, -1), BEYOND);
        says(31, "A SHEET has n numbers, all 0, of so many bits");
        for (int bits : new int[] {8, 16, 32}) {
            x.sheet(2, bits, 40);
            for (int i = 0; i < 40; i++) {
                x.put(2, i, 77);
            }
            due("anew", x.sheet(2, bits, 10), 1);
            due("ten", x.snows(2), 10);
            due("all 0", x.count(3), 0);
            due("forty again", x.sheet(2, bits, 40), 1);
            due("the last ten", x.move(2, 30, 2, 0, 10), 10);
            x.snows(2);
            due("all 0", x.count(3), 0);
        }
    }

    /** A number is seen as snow if it is 0 to 999: else it is none, which shows, too. */
    private static int asSnow(int bits, int v) {
        RaddleMarks x = new RaddleMarks();
        x.sheet(0, bits, 1);
        due("put " + v, x.put(0, 0, v), 1);
        return x.snows(0) == 1 ? x.ofCell(0, 0) : -1;
    }

    private static void putInto8Bits() {
        says(32, "Number i of a SHEET becomes v (its lowest bits): 1.");
        int[][] of8 = {{0, 0}, {1, 1}, {127, 127}, {128, -1}, {255, -1}, {-1, -1}, {256, 0}, {257, 1}, {256 + 127, 127},
            {256 + 128, -1}, {999, -1}, {-256, 0}, {-255, 1}, {-129, 127}, {-128, -1}, {65536 + 5, 5}, {MIN, 0}, {MAX, -1},
            {MIN + 99, 99}};
        for (int[] one : of8) {
            due("8 bits of " + one[0], asSnow(8, one[0]), one[1]);
        }
    }

    private static void putInto16And32Bits() {
        says(32, "Number i of a SHEET becomes v (its lowest bits): 1.");
        int[][] of16 = {{0, 0}, {999, 999}, {1000, -1}, {255, 255}, {256, 256}, {-1, -1}, {65535, -1}, {65536, 0},
            {65536 + 999, 999}, {65536 + 1000, -1}, {-65536, 0}, {-65536 + 999, 999}, {32767, -1}, {32768, -1}, {MIN, 0},
            {MIN + 999, 999}, {MAX, -1}};
        for (int[] one : of16) {
            due("16 bits of " + one[0], asSnow(16, one[0]), one[1]);
        }
        int[][] of32 = {{0, 0}, {999, 999}, {1000, -1}, {-1, -1}, {65536, -1}, {65536 + 5, -1}, {-65536, -1}, {MIN, -1},
            {MAX, -1}, {MIN + 5, -1}};
        for (int[] one : of32) {
            due("32 bits of " + one[0], asSnow(32, one[0]), one[1]);
        }
        says(32, "BEYOND: no such SHEET. NONE: it is missing. BEYOND: no such number.");
        RaddleMarks x = new RaddleMarks();
        edges.dueAll("no such sheet", BEYOND, x.put(-1, 0, 0), x.put(4, 0, 0), x.put(4, -1, 0), x.put(MIN, 0, 0));
        edges.dueAll("missing, ahead of no such number", NONE, x.put(0, 0, 0), x.put(3, -1, 0), x.put(3, 40, 0));
        x.sheet(0, 8, 40);
        due("the first", x.put(0, 0, 0), 1);
        due("the last", x.put(0, 39, 0), 1);
        edges.dueAll("no such number", BEYOND, x.put(0, -1, 0), x.put(0, 40, 0), x.put(0, MIN, 0), x.put(0, MAX, 0));
        x.sheet(0, 8, 0);
        due("no number at all", x.put(0, 0, 0), BEYOND);
    }

    private static void move() {
        says(33, "BEYOND: no such SHEET. NONE: one is missing. KIND: they are of unlike bits. BEYOND: n, i, or j is below 0, "
            + "or they don't stand there.");
        RaddleMarks x = new RaddleMarks();
        x.sheet(0, 8, 5);
        x.sheet(1, 8, 3);
        x.sheet(2, 16, 5);
        edges.dueAll("no such sheet, ahead of missing", BEYOND, x.move(4, 0, 3, 0, 0), x.move(3, 0, 4, 0, 0),
            x.move(-1, 0, 0, 0, 0), x.move(0, 0, -1, 0, 0), x.move(4, -1, 4, -1, -1));
        edges.dueAll("missing, ahead of unlike and of no such number", NONE, x.move(3, 0, 0, 0, 0), x.move(0, 0, 3, 0, 0),
            x.move(3, -1, 2, 0, 0), x.move(2, 0, 3, 9, 9), x.move(3, 0, 3, 0, -1));
        edges.dueAll("unlike, ahead of no such number", KIND, x.move(0, 0, 2, 0, 0), x.move(2, 0, 1, 0, 0),
            x.move(0, -1, 2, 0, 1), x.move(0, 0, 2, -1, 1), x.move(0, 0, 2, 0, -1), x.move(0, 0, 2, 0, 99));
        edges.dueAll("below 0", BEYOND, x.move(0, -1, 1, 0, 1), x.move(0, 0, 1, -1, 1), x.move(0, 0, 1, 0, -1),
            x.move(0, -1, 1, 0, 0), x.move(0, 0, 1, -1, 0), x.move(0, 1, 1, 1, -1), x.move(0, MIN, 1, 0, 1),
            x.move(0, 0, 1, MIN, 1), x.move(0, 0, 1, 0, MIN));
        edges.dueAll("they don't stand there", BEYOND, x.move(0, 5, 1, 0, 1), x.move(0, 0, 1, 3, 1), x.move(0, 0, 1, 0, 4),
            x.move(0, 3, 1, 0, 3), x.move(0, 0, 1, 1, 3), x.move(0, 6, 1, 0, 0), x.move(0, 0, 1, 4, 0), x.move(1, 0, 0, 0, 4),
            x.move(0, 1, 0, 0, 5), x.move(0, 0, 0, 1, 5), x.move(0, MAX, 1, 0, 1), x.move(0, 1, 1, 0, MAX),
            x.move(0, 1, 1, 1, MAX), x.move(0, MAX, 1, MAX, MAX), x.move(0, MAX, 1, 0, 0));
        due("none, at the ends", x.move(0, 5, 1, 3, 0), 0);
        due("all", x.move(1, 0, 0, 2, 3), 3);
        due("all of the same", x.move(0, 0, 0, 0, 5), 5);
        x.sheet(1, 8, 0);
        due("none of none", x.move(1, 0, 1, 0, 0), 0);
        due("one of none", x.move(1, 0, 1, 0, 1), BEYOND);
        x.sheet(0, 32, 40);
        x.sheet(1, 32, 40);
        due("forty", x.move(0, 0, 1, 0, 40), 40);
        due("forty of forty, from the second on", x.move(0, 1, 1, 0, 40), BEYOND);
    }

    private static void moveAsTheyWere() {
        says(33, "come to another one (or the same), from its number j on, as they all were: n.");
        for (int bits : new int[] {8, 16, 32}) {
            for (int i = 0; i <= 10; i++) {
                for (int j = 0; j <= 10; j++) {
                    int n = 10 - Math.max(i, j);
                    RaddleMarks x = new RaddleMarks();
                    Edges.write(x, 0, bits, 10, 11, 12, 13, 14, 15, 16, 17, 18, 19);
                    int[] want = {10, 11, 12, 13, 14, 15, 16, 17, 18, 19};
                    for (int k = 0; k < n; k++) {
                        want[j + k] = 10 + i + k;
                    }
                    due("in one sheet, from " + i + " to " + j, x.move(0, i, 0, j, n), n);
                    x.snows(0);
                    edges.dueRow("in one sheet, from " + i + " to " + j, Edges.snow(x), want);
                }
            }
            RaddleMarks y = new RaddleMarks();
            Edges.write(y, 0, bits, 1, 2, 3);
            Edges.write(y, 3, bits, 4, 5, 6, 7);
            due("to another", y.move(0, 1, 3, 2, 2), 2);
            y.snows(3);
            edges.dueRow("to another", Edges.snow(y), 4, 5, 2, 3, 0, 0, 0, 0, 0, 0);
            y.snows(0);
            edges.dueRow("the first stays", Edges.snow(y), 1, 2, 3, 3, 0, 0, 0, 0, 0, 0);
        }
    }

    private static void snows() {
        says(34, "how many, up to the first that is not 0 to 999 (no ERROR then), or for which there is no CELL.");
        RaddleMarks x = new RaddleMarks();
        Edges.write(x, 0, 32, 0, 999, 1, 1000, 5);
        for (int cell = 0; cell < 10; cell++) {
            x.snow(cell, 50);
        }
        due("up to 1000", x.snows(0), 3);
        edges.dueRow("up to 1000", Edges.snow(x), 0, 999, 1, 50, 50, 50, 50, 50, 50, 50);
        x.put(0, 0, -1);
        x.put(0, 1, 7);
        due("up to -1, the first", x.snows(0), 0);
        edges.dueRow("up to -1, the first", Edges.snow(x), 0, 999, 1, 50, 50, 50, 50, 50, 50, 50);
        x.sheet(0, 16, 0);
        due("of none", x.snows(0), 0);
        for (int n : new int[] {9, 10, 11, 40}) {
            x.sheet(0, 16, n);
            for (int i = 0; i < n; i++) {
                x.put(0, i, n);
            }
            x.snow(9, 3);
            due("of " + n, x.snows(0), Math.min(10, n));
            due("cell 9, of " + n, x.ofCell(9, 0), n == 9 ? 3 : n);
        }
        x.put(0, 10, -1);
        due("an eleventh that is below 0", x.snows(0), 10);
        due("no error", x.told(1) + x.told(2), 0);
        says(34, "BEYOND: no such SHEET. NONE: it is missing.");
        edges.dueAll("beyond", BEYOND, x.snows(-1), x.snows(4), x.snows(MIN), x.snows(MAX));
        edges.dueAll("missing", NONE, x.snows(1), x.snows(2), x.snows(3));
    }

    private static void judge() {
        says(35, "the first that isn't so (one that lacks, or is too many, too); -1: all are.");
        for (int sheep = 0; sheep <= 7; sheep++) {
            RaddleMarks x = new RaddleMarks();
            for (int i = 0; i < sheep; i++) {
                x.sheep(0, 0, 99 - i, 0);
            }
            for (int n = 0; n <= 9; n++) {
                x.sheet(0, 8, n);
                for (int i = 0; i < n; i++) {
                    x.put(0, i, 99 - i);
                }
                due(n + " numbers for " + sheep, x.judge(0), n == sheep ? -1 : Math.min(n, sheep));
            }
        }
        RaddleMarks x = new RaddleMarks();
        for (int i = 0; i < 7; i++) {
            x.sheep(0, 0, 0, 0);
        }
        for (int i = 0; i < 7; i++) {
            x.sheet(0, 32, 7);
            due("all are 0", x.judge(0), -1);
            x.put(0, i, 256);
            due("not number " + i, x.judge(0), i);
            x.put(0, 6, 1);
            due("the first that isn't so", x.judge(0), i);
        }
        x.sheet(0, 8, 40);
        due("33 too many", x.judge(0), 7);
        due("-1 is no ERROR", x.told(1), 0);
        says(35, "BEYOND: no such SHEET. NONE: it is missing.");
        edges.dueAll("beyond", BEYOND, x.judge(-1), x.judge(4), x.judge(MIN), x.judge(MAX));
        edges.dueAll("missing", NONE, x.judge(1), x.judge(2), x.judge(3));
    }

    private static void image() {
        says(36, "is kept as an IMAGE, in place of one ahead: how often that was done.");
        RaddleMarks x = Edges.still();
        for (int i = 1; i <= 5; i++) {
            due("how often", x.image(), i);
            x.hours(1);
            due("in place of one ahead", x.restore(), i - 1);
            x.hours(1);
        }
        says(36, "All (but SHEETS, THE TRACE, what told() tells, and how often this was done)");
        x.sheep(0, 0, 5, 0);
        x.voice(0, 0, 0);
        x.image();
        x.sheet(0, 8, 1);
        x.put(0, 0, 9);
        x.voice(0, 1, 0);
        x.snow(10, 0);
        x.as(0, 1);
        x.image();
        x.snow(0, 1);
        x.restore();
        due("the sheet stays", x.snows(0), 1);
        due("the sheet stays", x.ofCell(0, 0), 9);
        due("the trace stays", x.count(8), 2);
        due("told stays", x.told(1), 1);
        due("told stays", x.told(5), 1);
        due("how often stays", x.image(), 8);
    }

    private static void restore() {
        says(37, "All is as the IMAGE has it, which stays: HOUR.");
        RaddleMarks x = new RaddleMarks();
        x.seeker(1, 2);
        x.sheep(34, 5, 60, 1);
        x.sheep(0, 0, 0, 0);
        x.change(1, 3, 1);
        x.snow(7, 70);
        Edges.read(x, 0, "2");
        Edges.read(x, 1, "m");
        x.seed(77);
        x.hours(3);
        Edges.feed(x, "8");
        x.tell(1);
        x.image();
        for (int round = 0; round < 2; round++) {
            spoil(x);
            due("hour", x.restore(), 3);
            int[] counts = {1, 2, 3, 130, 2, 0, 1, 1, 4, 77};
            for (int what = 0; what < 10; what++) {
                due("count " + what, x.count(what), counts[what]);
            }
            int[] sheep = {3, 4, 5, 51, 1, 0};
            for (int what = 0; what < 6; what++) {
                due("sheep " + what, x.ofSheep(0, what), sheep[what]);
            }
            due("at", x.ofSeeker(0, 0), 4);
            due("strength", x.ofSeeker(0, 1), 2);
            due("falls", x.law(0, 0, 0, 0), 2);
            due("goes out", x.law(1, 1, 1, 0), 0);
            due("the number that waits", x.check(), 0);
            due("the tape", x.text(0), 1);
            due("the tape", x.law(0, 0, 0, 0), 8);
        }
    }

    private static void spoil(RaddleMarks x) {
        x.check();
        x.text(0);
        Edges.read(x, 0, "5");
        Edges.read(x, 1, "1");
        Edges.feed(x, "77");
        x.tell(5);
        x.tell(6);
        x.seeker(3, 4);
        x.sheep(12, 1, 2, 3);
        x.become(0, 66);
        x.change(0, 0, 2);
        x.change(0, 1, 3);
        x.change(0, 2, 3);
        x.change(0, 3, 1);
        x.change(1, 3, 0);
        x.send(0, 0, 9);
        x.send(0, 1, 50);
        x.loose(5);
        x.voice(0, 3, 1);
        x.become(0, 0);
        x.voice(0, 3, 1);
    }

    private static void restoreOfNothing() {
        says(37, "NONE: there is none.");
        RaddleMarks x = Edges.still();
        x.hours(5);
        edges.dueAll("none", NONE, x.restore(), x.restore());
        due("the hour stays", x.count(2), 5);
        RaddleMarks y = new RaddleMarks();
        y.image();
        spoil(y);
        y.seeker(0, 0);
        y.sheep(69, 9, 99, 0);
        y.sheep(69, 9, 99, 0);
        y.change(0, 3, 1);
        y.change(1, 3, 1);
        due("an image of a new object", y.restore(), 0);
        int[] counts = {0, 0, 0, 0, 0, 0, 0, 0, y.count(8), 1};
        for (int what = 0; what < 10; what++) {
            due("count " + what, y.count(what), counts[what]);
        }
        edges.dueAll("no texts", 1, y.law(0, 0, 0, 0), y.law(1, 0, 0, 0));
        due("a mark of seekers that there were", y.sheep(0, 0, 0, 1), BEYOND);
        due("a new sheep", y.sheep(0, 0, 0, 0), 0);
        due("another, where one was found", y.sheep(0, 0, 0, 0), 1);
        due("none is found", y.count(4), 0);
    }

    private static void tell() {
        says(38, "One more number waits: how many. FULL: 20 wait.");
        RaddleMarks x = new RaddleMarks();
        for (int i = 1; i <= 20; i++) {
            due("how many", x.tell(i % 2 == 0 ? MIN : MAX), i);
        }
        edges.dueAll("full", FULL, x.tell(0), x.tell(0));
        due("twenty wait", x.count(7), 20);
        x.check();
        due("none wait", x.count(7), 0);
        due("one waits", x.tell(0), 1);
    }

    /** With a strength of 1 the sheep is found behind s - 5 hours. */
    private static void check() {
        says(39, "The numbers that wait (none do then) are how many SHEEP are FOUND behind 1, 2, .. HOURS: 0;");
        RaddleMarks x = Edges.dig(1, 0, 25);
        due("none wait", x.check(), 0);
        for (int i = 1; i <= 20; i++) {
            x.tell(i < 20 ? 0 : 1);
        }
        due("twenty, the last in the 20th hour", x.check(), 0);
        due("none do then", x.count(7), 0);
        due("none wait", x.check(), 0);
        due("no hour is gone", x.count(2), 0);
        due("none is found", x.count(4), 0);
        says(39, "else 1 and the place (from 0) of the first that isn't so.");
        for (int place = 0; place < 20; place++) {
            for (int i = 0; i < 20; i++) {
                x.tell(i == place || i > place && i % 2 == 0 ? 7 : i < 19 ? 0 : 1);
            }
            due("place " + place, x.check(), 1 + place);
            due("none do then", x.count(7), 0);
        }
        x.change(0, 3, 1);
        x.tell(1);
        due("found now", x.check(), 0);
        x.tell(0);
        due("found now", x.check(), 1);
    }

    private static void count() {
        says(40, "6 bytes of THE TAPE, 7 numbers that wait, 8 BODIES in THE TRACE, 9 z (any number). BEYOND.");
        RaddleMarks x = new RaddleMarks();
        for (int i = 0; i < 6; i++) {
            x.seeker(0, 0);
        }
        for (int i = 0; i < 7; i++) {
            x.sheep(60, 0, 0, 0);
        }
        for (int i = 0; i < 10; i++) {
            x.snow(i, 999);
        }
        Edges.feed(x, "1".repeat(50));
        for (int i = 0; i < 20; i++) {
            x.tell(0);
        }
        x.voice(0, 3, 0);
        x.seed(BEYOND);
        int[] most = {6, 7, 0, 9990, 0, 127, 50, 20, 9, BEYOND};
        for (int what = 0; what < 10; what++) {
            due("the most of " + what, x.count(what), most[what]);
        }
        due("z is no ERROR", x.told(1), 0);
        for (int i = 0; i < 7; i++) {
            x.change(i, 3, 1);
        }
        due("all found", x.count(4), 127);
        due("none lost", x.count(5), 0);
        edges.dueAll("beyond", BEYOND, x.count(-1), x.count(10), x.count(MIN), x.count(MAX));
        due("told", x.told(1), 4);
    }

    private static void told() {
        says(41, "How many acts have answered an ERROR LOW - k (k 1 .. 5); BEYOND: another k (counted, too).");
        RaddleMarks x = new RaddleMarks();
        x.sheep(0, 0, 0, 0);
        for (int i = 0; i < 20; i++) {
            x.tell(0);
        }
        for (int i = 1; i <= 3; i++) {
            x.snow(-1, 0);
            x.restore();
            x.sheet(0, 8, -1);
            x.tell(0);
            x.as(0, 6);
            for (int k = 1; k <= 5; k++) {
                due("k " + k, x.told(k), i);
            }
        }
        edges.dueAll("another k", BEYOND, x.told(0), x.told(6), x.told(-1), x.told(MIN), x.told(MAX));
        due("counted, too", x.told(1), 8);
        edges.dueAll("by its own kind", 3, x.told(2), x.told(3), x.told(4), x.told(5));
        due("asking is no ERROR", x.told(1), 8);
    }
}
