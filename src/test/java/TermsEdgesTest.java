import java.util.List;

/** The sentences of the document's "Terms" that name a bound, each with a test of its own. */
public final class TermsEdgesTest {
    private static final int MIN = Edges.MIN;
    private static final int MAX = Edges.MAX;
    private static final String TERMS = "Terms";

    private static Edges edges;

    private static void says(String words) {
        edges.says(TERMS, words);
    }

    private static void due(String what, int got, int want) {
        edges.due(what, got, want);
    }

    private static int worth(String text, int c, int s, int h) {
        RaddleMarks x = new RaddleMarks();
        due("text " + text, Edges.read(x, 0, text), 1);
        return x.law(0, c, s, h);
    }

    public static void main(String[] args) throws Exception {
        edges = new Edges("terms");
        errors();
        quotients();
        cells();
        snowAndHour();
        seekers();
        sheep();
        lost();
        heard();
        heardAtTheBrink();
        heardByMarks();
        cold();
        warmthAtLeast();
        out();
        snowFalls();
        seekersByNumbers();
        seekersDig();
        sheepInSnow();
        tapeAndNumbers();
        opened();
        signsThatGoOn();
        signsThatGoOnInBrackets();
        endsTooEarly();
        bindings();
        sums();
        uses();
        onlyThought();
        behind();
        when();
        addWithin();
        addFewest();
        start();
        startWithinCells();
        missed();
        missedThoughTwoFindLess();
        nobody();
        lies();
        order();
        strong();
        odds();
        draws();
        voices();
        trace();
        sheets();
        edges.end();
    }

    private static void errors() {
        says("ERRORS are answers below -1000000000: LOW is -1000000000; LOW - 1 BEYOND, LOW - 2 NONE, LOW - 3 STATE, "
            + "LOW - 4 FULL, LOW - 5 KIND.");
        RaddleMarks x = new RaddleMarks();
        due("BEYOND", x.snow(10, 0), -1000000001);
        due("NONE", x.restore(), -1000000002);
        due("STATE", x.sheet(0, 8, -1), -1000000003);
        for (int i = 0; i < 7; i++) {
            x.sheep(0, 0, 0, 0);
        }
        due("FULL", x.sheep(0, 0, 0, 0), -1000000004);
        due("KIND", x.as(0, 1), -1000000005);
    }

    private static void quotients() {
        says("Quotients are cut (toward 0).");
        due("-7 / 2", worth("9+c/2", -7, 0, 0), 6);
        due("7 / -2", worth("9+c/s", 7, -2, 0), 6);
        due("-7 / -2", worth("9+c/s", -7, -2, 0), 12);
        due("-1 / 2", worth("9+c/s", -1, 2, 0), 9);
        due("1 / 2", worth("9+c/s", 1, 2, 0), 9);
        due("7 / 8", worth("9+c/s", 7, 8, 0), 9);
        due("8 / 8", worth("9+c/s", 8, 8, 0), 10);
    }

    private static void cells() {
        says("CELLS 0 .. 9 in a row");
        RaddleMarks x = Edges.still();
        x.seeker(0, 99);
        x.seeker(9, 99);
        x.sheep(0, 9, 99, 1);
        x.sheep(0, 0, 99, 2);
        for (int i = 1; i <= 9; i++) {
            due("none is found on the way", x.hours(1), 0);
            due("from the first to the last, cell by cell", x.ofSeeker(0, 0), i);
            due("from the last to the first, cell by cell", x.ofSeeker(1, 0), 9 - i);
        }
        due("both are found at the ends", x.hours(1), 3);
        RaddleMarks y = new RaddleMarks();
        y.seeker(0, 0);
        y.sheep(0, 9, 99, 1);
        y.sheep(0, 8, 99, 1);
        due("from 0 it is farther to 9 than to 8", y.ofSeeker(0, 2), 1);
        y.send(0, 0, 9);
        y.change(0, 0, 0);
        y.change(1, 0, 1);
        due("from 9 it is farther to 0 than to 1", y.ofSeeker(0, 2), 1);
    }

    private static void snowAndHour() {
        says("each with SNOW (0 to 999; 0 at first)");
        RaddleMarks x = new RaddleMarks();
        for (int cell = 0; cell < 10; cell++) {
            due("at first", x.ofCell(cell, 0), 0);
            due("the most is taken", x.snow(cell, 999), 0);
            due("the most stands", x.ofCell(cell, 0), 999);
            due("one above is refused", x.snow(cell, 1000), Edges.BEYOND);
            due("one below is refused", x.snow(cell, -1), Edges.BEYOND);
            due("the least is taken", x.snow(cell, 0), 999);
            due("the least stands", x.ofCell(cell, 0), 0);
        }
        says("HOUR (0 to 9999; 0 at first)");
        due("at first", new RaddleMarks().count(2), 0);
        RaddleMarks y = Edges.atHour(9998);
        due("ahead of the last", y.count(2), 9998);
        due("to the last", y.hours(1), 0);
        due("the last", y.count(2), 9999);
        due("none behind it", y.hours(1), Edges.STATE);
        due("the last stays", y.count(2), 9999);
        y.image();
        due("the last in an image", y.restore(), 9999);
    }

    private static void seekers() {
        says("SEEKERS 0, 1, .. (at most 6), each AT a CELL, with STRENGTH (0 to 99).");
        RaddleMarks x = new RaddleMarks();
        for (int i = 0; i < 6; i++) {
            due("number", x.seeker(i < 3 ? 0 : 9, i < 3 ? 0 : 99), i);
        }
        due("a seventh", x.seeker(0, 0), Edges.FULL);
        due("six", x.count(0), 6);
        for (int i = 0; i < 6; i++) {
            due("at", x.ofSeeker(i, 0), i < 3 ? 0 : 9);
            due("strength", x.ofSeeker(i, 1), i < 3 ? 0 : 99);
        }
        RaddleMarks y = new RaddleMarks();
        edges.dueAll("beyond", Edges.BEYOND, y.seeker(0, -1), y.seeker(0, 100), y.seeker(-1, 0), y.seeker(10, 0));
        due("none is there", y.count(0), 0);
        due("the first is 0 after refusals", y.seeker(9, 99), 0);
    }

    private static void sheep() {
        says("SHEEP 0, 1, .. (at most 7), of KINDS: 0 SHEEP; 1 TUP, 2 EWE, 3 LAMB under SHEEP; 4 BELL under TUP; "
            + "5 TOPP under EWE; 6 POT under LAMB; with a number m (0 to 9), in a CELL, with WARMTH (0 to 99), a MARK");
        RaddleMarks x = new RaddleMarks();
        for (int i = 0; i < 6; i++) {
            x.seeker(0, 0);
        }
        for (int i = 0; i < 7; i++) {
            int last = i % 2;
            due("number", x.sheep(10 * i + 9 * last, 9 * last, 99 * last, 63 * last), i);
        }
        due("an eighth", x.sheep(0, 0, 0, 0), Edges.FULL);
        due("seven", x.count(1), 7);
        for (int i = 0; i < 7; i++) {
            int last = i % 2;
            due("kind", x.ofSheep(i, 0), i);
            due("m", x.ofSheep(i, 1), 9 * last);
            due("cell", x.ofSheep(i, 2), 9 * last);
            due("warmth", x.ofSheep(i, 3), 99 * last);
            due("mark", x.ofSheep(i, 4), 63 * last);
        }
        RaddleMarks y = new RaddleMarks();
        edges.dueAll("beyond", Edges.BEYOND, y.sheep(-1, 0, 0, 0), y.sheep(70, 0, 0, 0), y.sheep(0, -1, 0, 0),
            y.sheep(0, 10, 0, 0), y.sheep(0, 0, -1, 0), y.sheep(0, 0, 100, 0), y.sheep(0, 0, 0, -1), y.sheep(0, 0, 0, 1));
        due("none is there", y.count(1), 0);
        due("the first is 0 after refusals", y.sheep(69, 9, 99, 0), 0);
        says("FOUND or not (not at first)");
        for (int i = 0; i < 7; i++) {
            due("found", x.ofSheep(i, 5), 0);
        }
        due("as a set", x.count(4), 0);
    }

    private static void lost() {
        says("One is LOST, if it is not FOUND and has no WARMTH.");
        RaddleMarks x = new RaddleMarks();
        x.sheep(0, 0, 1, 0);
        x.sheep(0, 0, 0, 0);
        due("with a warmth of 1, with none", x.count(5), 2);
        x.change(1, 3, 1);
        due("found, with none", x.count(5), 0);
        x.change(1, 3, 0);
        due("not found, with none", x.count(5), 2);
        x.change(1, 1, 1);
        due("with a warmth of 1", x.count(5), 0);
        for (int i = 2; i < 7; i++) {
            x.sheep(0, 0, 0, 0);
        }
        x.change(0, 1, 0);
        x.change(1, 1, 0);
        due("all", x.count(5), 127);
    }

    /** What each kind is heard through, by m from 0 to 9; its mark has two. */
    private static final int[][] HEARD_EVEN = {
        {5, 5, 5, 5, 5, 5, 5, 5, 5, 5},
        {5, 6, 7, 8, 9, 10, 11, 12, 13, 14},
        {10, 10, 10, 10, 10, 10, 10, 10, 10, 10},
        {5, 5, 4, 4, 3, 3, 2, 2, 1, 1},
        {55, 56, 57, 58, 59, 60, 61, 62, 63, 64},
        {10, 10, 10, 10, 10, 10, 10, 10, 10, 10},
        {5, 5, 4, 4, 3, 3, 2, 2, 1, 1}};
    private static final String[] HEARD = {"SHEEP: 5.", "TUP: that, and m.", "EWE: twice a SHEEP's.",
        "LAMB: a SHEEP's, less half (cut) of m.", "BELL: as TUP, and 50.", "TOPP: as EWE, 0 in HOURS of odd number.",
        "POT: as LAMB;"};

    private static int heardAt(int kind, int m, int hour) {
        return kind == 5 && hour % 2 == 1 ? 0 : HEARD_EVEN[kind][m];
    }

    private static void heard() {
        for (int kind = 0; kind < 7; kind++) {
            says(HEARD[kind]);
            for (int m = 0; m < 10; m++) {
                RaddleMarks x = new RaddleMarks();
                x.seeker(0, 0);
                x.seeker(0, 0);
                x.sheep(10 * kind + m, 5, 99, 3);
                for (int hour = 0; hour < 4; hour++) {
                    due("m " + m + ", hour " + hour, x.ofSheep(0, 6), heardAt(kind, m, hour));
                    x.hours(1);
                }
            }
        }
    }

    private static void heardAtTheBrink() {
        says("if SNOW is no more than it is HEARD through, it is FOUND");
        for (int kind = 0; kind < 7; kind++) {
            for (int m = 0; m < 10; m++) {
                for (int hour = 0; hour < 2; hour++) {
                    int heard = heardAt(kind, m, hour);
                    for (int more = -1; more <= 1; more++) {
                        if (heard + more < 0) {
                            continue;
                        }
                        RaddleMarks x = Edges.atHour(hour);
                        x.seeker(4, 0);
                        x.seeker(0, 0);
                        x.sheep(10 * kind + m, 4, 99, 3);
                        x.snow(4, heard + more);
                        due("kind " + kind + ", m " + m + ", hour " + hour + ", under " + (heard + more), x.hours(1),
                            more <= 0 ? 1 : 0);
                    }
                }
            }
        }
    }

    private static void heardByMarks() {
        says("0, if its MARK is of one alone.");
        RaddleMarks x = new RaddleMarks();
        for (int i = 0; i < 6; i++) {
            x.seeker(0, 0);
        }
        x.sheep(60, 5, 99, 0);
        x.sheep(30, 5, 99, 0);
        for (int mark = 0; mark < 64; mark++) {
            x.change(0, 2, mark);
            x.change(1, 2, mark);
            due("a pot of mark " + mark, x.ofSheep(0, 6), Integer.bitCount(mark) == 1 ? 0 : 5);
            due("a lamb of mark " + mark, x.ofSheep(1, 6), 5);
        }
        due("a pot of one alone, without snow", Edges.dig(0, 60, 0).hours(1), 1);
        due("a pot of one alone, under 1", Edges.dig(0, 60, 1).hours(1), 0);
    }

    private static void cold() {
        int[][] even = {{1, 1}, {1, 1}, {1, 2}, {3, 3}, {1, 1}, {1, 2}, {3, 3}};
        int[][] odd = {{1, 1}, {0, 0}, {1, 2}, {3, 3}, {0, 0}, {1, 2}, {3, 3}};
        String[] words = {"SHEEP: 1.", "TUP: 1, if 2 divides HOUR, else 0.", "EWE: a SHEEP's, and the rest of m by 2.",
            "LAMB: 3.", "(Others as the KIND above.)", "(Others as the KIND above.)", "(Others as the KIND above.)"};
        for (int kind = 0; kind < 7; kind++) {
            says(words[kind]);
            for (int m = 0; m < 10; m++) {
                RaddleMarks x = Edges.still();
                x.sheep(10 * kind + m, 5, 99, 0);
                x.snow(5, 1);
                int warmth = 99;
                for (int hour = 0; hour < 4; hour++) {
                    int cold = (hour % 2 == 0 ? even : odd)[kind][m % 2];
                    due("kind " + kind + ", m " + m + ", hour " + hour, x.ofSheep(0, 7), cold);
                    x.hours(1);
                    warmth -= cold;
                    due("warmth of kind " + kind + ", m " + m + ", behind hour " + hour, x.ofSheep(0, 3), warmth);
                }
            }
        }
    }

    private static void warmthAtLeast() {
        says("WARMTH is less by COLD (0 at least).");
        int[] behind = {0, 0, 0, 0, 1};
        for (int warmth = 0; warmth <= 4; warmth++) {
            RaddleMarks x = new RaddleMarks();
            x.sheep(30, 5, warmth, 0);
            x.hours(1);
            due("a lamb with " + warmth, x.ofSheep(0, 3), behind[warmth]);
            due("lost, of " + warmth, x.count(5), warmth <= 3 ? 1 : 0);
            x.hours(60);
            due("a lamb long behind", x.ofSheep(0, 3), 0);
        }
    }

    private static void out() {
        says("to which it is fewest CELLS; of several the least number; or for none.");
        RaddleMarks x = new RaddleMarks();
        x.seeker(5, 0);
        x.seeker(5, 0);
        due("no sheep", x.ofSeeker(0, 2), -1);
        x.sheep(0, 8, 9, 1);
        due("the only one", x.ofSeeker(0, 2), 0);
        due("not of its mark", x.ofSeeker(1, 2), -1);
        x.sheep(0, 2, 9, 1);
        due("as far to either side", x.ofSeeker(0, 2), 0);
        x.change(1, 0, 3);
        due("a cell nearer", x.ofSeeker(0, 2), 1);
        x.change(0, 0, 3);
        due("in one cell", x.ofSeeker(0, 2), 0);
        x.change(0, 3, 1);
        due("the first is found", x.ofSeeker(0, 2), 1);
        x.change(1, 1, 0);
        due("and the other lost", x.ofSeeker(0, 2), -1);
        x.change(1, 1, 1);
        due("with a warmth of 1", x.ofSeeker(0, 2), 1);
        x.send(0, 0, 3);
        due("in its own cell", x.ofSeeker(0, 2), 1);
        says("for whom the other TEXT gives other than 0");
        Edges.read(x, 1, "w-1");
        due("a text that gives 0", x.ofSeeker(0, 2), -1);
        x.change(1, 1, 2);
        due("a text that gives 1", x.ofSeeker(0, 2), 1);
        Edges.read(x, 1, "0-w");
        due("a text below 0, which is held", x.ofSeeker(0, 2), -1);
    }

    private static void snowFalls() {
        says("each CELL: SNOW is more by what the TEXT gives (held).");
        RaddleMarks x = new RaddleMarks();
        Edges.read(x, 0, "c*33");
        int[] ahead = {999, 0, 999, 900, 901, 899, 998, 0, 1, 999};
        for (int cell = 0; cell < 10; cell++) {
            x.snow(cell, ahead[cell]);
        }
        x.hours(1);
        edges.dueRow("snow", Edges.snow(x), 999, 33, 999, 999, 999, 998, 999, 99, 100, 999);
        RaddleMarks y = new RaddleMarks();
        Edges.read(y, 0, "0-s");
        y.snow(0, 5);
        y.hours(1);
        due("a text below 0", y.ofCell(0, 0), 5);
        RaddleMarks z = new RaddleMarks();
        z.snow(9, 998);
        z.hours(1);
        due("without a text, the last that falls", z.ofCell(9, 0), 999);
        z.hours(60);
        due("without a text, held", z.ofCell(9, 0), 999);
        due("without a text, 61 hours", z.ofCell(0, 0), 61);
    }

    private static void seekersByNumbers() {
        says("SEEKERS by numbers, each by how all is then");
        RaddleMarks x = Edges.still();
        x.seeker(4, 10);
        x.seeker(4, 10);
        x.sheep(0, 4, 99, 3);
        x.sheep(0, 6, 99, 2);
        x.snow(4, 15);
        due("the first finds it", x.hours(1), 1);
        due("the second digs no more", x.ofCell(4, 0), 5);
        due("the second goes for the other", x.ofSeeker(1, 0), 5);
        RaddleMarks y = Edges.still();
        y.seeker(4, 10);
        y.seeker(4, 10);
        y.sheep(0, 4, 99, 3);
        y.snow(4, 25);
        due("both dig", y.hours(1), 1);
        due("both dig", y.ofCell(4, 0), 5);
        y.change(0, 3, 0);
        y.snow(4, 26);
        due("both dig, and it lacks one", y.hours(1), 0);
        due("both dig, and it lacks one", y.ofCell(4, 0), 6);
    }

    private static void seekersDig() {
        says("one goes a CELL toward it");
        RaddleMarks x = Edges.still();
        x.seeker(4, 99);
        x.seeker(4, 99);
        x.sheep(0, 5, 99, 1);
        x.sheep(0, 3, 99, 2);
        x.snow(5, 50);
        due("none is found in the hour in which one goes", x.hours(1), 0);
        due("to the greater", x.ofSeeker(0, 0), 5);
        due("to the lesser", x.ofSeeker(1, 0), 3);
        due("one does not dig in the hour in which one goes", x.ofCell(5, 0), 50);
        says("SNOW of it is less by STRENGTH (0 at least)");
        int[] ahead = {0, 98, 99, 100, 999};
        int[] behind = {0, 0, 0, 1, 900};
        for (int i = 0; i < ahead.length; i++) {
            RaddleMarks y = Edges.dig(99, 0, ahead[i]);
            y.hours(1);
            due("99 of " + ahead[i], y.ofCell(4, 0), behind[i]);
            RaddleMarks z = Edges.dig(0, 0, ahead[i]);
            z.hours(1);
            due("0 of " + ahead[i], z.ofCell(4, 0), ahead[i]);
        }
    }

    private static void sheepInSnow() {
        says("each SHEEP that is not FOUND, in a CELL with SNOW");
        RaddleMarks x = Edges.still();
        x.sheep(0, 0, 50, 0);
        x.sheep(0, 1, 50, 0);
        x.sheep(0, 1, 50, 0);
        x.snow(1, 1);
        x.change(2, 3, 1);
        x.hours(1);
        due("without snow", x.ofSheep(0, 3), 50);
        due("with a snow of 1", x.ofSheep(1, 3), 49);
        due("found", x.ofSheep(2, 3), 50);
        RaddleMarks y = Edges.dig(99, 0, 99);
        y.sheep(0, 4, 50, 0);
        due("found in this hour", y.hours(1), 1);
        due("found in this hour", y.ofSheep(0, 3), 99);
        due("one beside it from whom all snow is dug", y.ofSheep(1, 3), 50);
        RaddleMarks z = new RaddleMarks();
        z.seeker(4, 0);
        z.sheep(0, 4, 1, 1);
        due("found in the hour in which it would be lost", z.hours(1), 1);
        due("found in the hour in which it would be lost", z.ofSheep(0, 3), 1);
        says("HOUR is 1 more.");
        due("one", z.count(2), 1);
        z.hours(1);
        due("two", z.count(2), 2);
    }

    private static void tapeAndNumbers() {
        says("THE TAPE (bytes, at most 50)");
        String fifty = "c+c+c+c+c+c+c+c+c+c+c+c+c+c+c+c+c+c+c+c+c+c+c+c+10";
        due("fifty bytes are a text", worth(fifty, 1, 0, 0), 34);
        RaddleMarks x = new RaddleMarks();
        Edges.feed(x, fifty);
        due("fifty", x.count(6), 50);
        due("one more", x.feed('1', 1), Edges.FULL);
        due("fifty stay", x.count(6), 50);
        due("and are a text", x.text(0), 1);
        due("none", x.count(6), 0);
        due("of open signs alone", Edges.read(new RaddleMarks(), 0, "!!!!!c" + "|!!!!!c".repeat(6) + "|1"), 1);
        says("a NUMBER of 1 to 4 digits");
        due("1", worth("0", 0, 0, 0), 0);
        due("1", worth("9", 0, 0, 0), 9);
        due("2", worth("09", 0, 0, 0), 9);
        due("4", worth("0009", 0, 0, 0), 9);
        due("4", worth("(9999=c)*7", 9999, 0, 0), 7);
        due("4", worth("(1000=c)*7", 1000, 0, 0), 7);
        due("5", Edges.read(new RaddleMarks(), 0, "00000"), -14);
        due("5", Edges.read(new RaddleMarks(), 0, "99999"), -14);
        due("5, behind a sign", Edges.read(new RaddleMarks(), 0, "1+23456"), -16);
        due("4, and 4", worth("(9999-9998)*7", 0, 0, 0), 7);
        says("No blanks.");
        due("ahead", Edges.read(new RaddleMarks(), 0, " 1"), -10);
        due("within", Edges.read(new RaddleMarks(), 0, "1 +1"), -11);
        due("behind a sign", Edges.read(new RaddleMarks(), 0, "1+ 1"), -12);
        due("at the end", Edges.read(new RaddleMarks(), 0, "1 "), -11);
    }

    private static void opened() {
        says("At most 5 of ! and ( are open at once.");
        for (String five : new String[] {"!!!!!", "(((((", "!(!(!", "(!(!(", "((((!", "!!!!("}) {
            String closed = five.replace("!", "").replace('(', ')');
            due("five: " + five, Edges.read(new RaddleMarks(), 0, five + "1" + closed), 1);
            due("five twice: " + five, Edges.read(new RaddleMarks(), 0, five + "1" + closed + "+" + five + "1" + closed), 1);
            due("six: " + five + "!", Edges.read(new RaddleMarks(), 0, five + "!1" + closed), -15);
            due("six: " + five + "(", Edges.read(new RaddleMarks(), 0, five + "(1)" + closed), -15);
            due("six the second time: " + five, Edges.read(new RaddleMarks(), 0, "!c+" + five + "!1"), -18);
        }
        due("closed again within", Edges.read(new RaddleMarks(), 0, "((((c)+!c)*(!c)-(c))&!(((c))))"), 1);
        due("! is closed behind what it denies", Edges.read(new RaddleMarks(), 0, "!c+!c+!c+!c+!c+!c+!c+!c"), 1);
        due("! ahead of (", Edges.read(new RaddleMarks(), 0, "!((((c)+!1)))"), 1);
        due("! ahead of ( is open within it", Edges.read(new RaddleMarks(), 0, "!((((c+!1))))"), -17);
    }

    /** Each byte behind what stands ahead: it makes a text, or it goes on, or there is the fault. */
    private static void signs(int use, String ahead, String right, String goesOn) {
        for (int b = 0; b < 256; b++) {
            int at = ahead.length();
            int want = right.indexOf(b) >= 0 ? 1 : goesOn.indexOf(b) >= 0 ? -10 - (at + 1) : -10 - at;
            RaddleMarks x = new RaddleMarks();
            due("use " + use + ", byte " + b + " behind " + ahead, Edges.read(x, use, ahead + (char) b), want);
        }
    }

    private static void signsThatGoOn() {
        says("FAULT: the place of the first byte with which no TEXT goes on");
        String digits = "0123456789";
        String signs = "|&<=>+-*/%";
        for (int use = 0; use < 2; use++) {
            String names = use == 0 ? "csh" : "dwm";
            String name = names.substring(2);
            String values = digits + names;
            signs(use, "", values, "!(");
            signs(use, name, "", signs);
            signs(use, "1", digits, signs);
            signs(use, "123", digits, signs);
            signs(use, "1234", "", signs);
            for (char sign : signs.toCharArray()) {
                signs(use, name + sign, values, "!(");
            }
            for (String compared : new String[] {"<", "=", ">"}) {
                signs(use, name + compared + name, "", "|&+-*/%");
                signs(use, "1+2" + compared + "3*4", digits, "|&+-*/%");
                signs(use, "1" + compared + "2&1", digits, signs);
                signs(use, "1" + compared + "2|1", digits, signs);
                signs(use, "1" + compared + "2+1", digits, "|&+-*/%");
            }
            signs(use, "!", values, "!(");
            signs(use, "!" + name, "", signs);
            signs(use, "!!!!!", values, "");
        }
    }

    private static void signsThatGoOnInBrackets() {
        says("how many there are, if it ends too early.");
        String digits = "0123456789";
        String signs = "|&<=>+-*/%";
        signs(0, "(", "", digits + "csh!(");
        signs(0, "(c", ")", signs);
        signs(0, "(c)", "", signs);
        signs(0, "((c)", ")", signs);
        signs(0, "((c", "", signs + ")");
        signs(0, "(c<c", ")", "|&+-*/%");
        signs(0, "(c<c)", "", signs);
        signs(0, "(c<c)<c", "", "|&+-*/%");
        signs(0, "c<(c", ")", signs);
        signs(0, "c<(c)", "", "|&+-*/%");
        signs(0, "(((((", "", digits + "csh");
        signs(0, "((((!", "", digits + "csh");
        signs(0, "(((((c", "", signs + ")");
        signs(0, "(((((c)", "", signs + ")");
        signs(0, "(((((c)+", "", digits + "csh!(");
        signs(0, "((((c+", "", digits + "csh!(");
    }

    private static void endsTooEarly() {
        says("if it ends too early.");
        String whole = "!(c+12)*(h<s%3)|1&(5)";
        List<Integer> texts = List.of(7, 15, 17, 21);
        for (int n = 0; n <= whole.length(); n++) {
            due("the first " + n + " of " + whole, Edges.read(new RaddleMarks(), 0, whole.substring(0, n)),
                texts.contains(n) ? 1 : -10 - n);
        }
        due("none", new RaddleMarks().text(0), -10);
        due("none, of the other use", new RaddleMarks().text(1), -10);
        due("fifty", Edges.read(new RaddleMarks(), 0, "1+".repeat(25)), -60);
        due("fifty but one", Edges.read(new RaddleMarks(), 0, "1+".repeat(24) + "("), -59);
    }

    private static void bindings() {
        says("T: A { | A }. A: B { & B }. B: S, or S < S, S = S, S > S. S: P { + P, - P }. P: Q { * Q, / Q, % Q }.");
        due("& ahead of |", worth("4+(1|0&0)", 0, 0, 0), 5);
        due("& ahead of |, on the left", worth("4+(0&0|1)", 0, 0, 0), 5);
        due("= ahead of &", worth("4+(0=1&0)", 0, 0, 0), 4);
        due("= ahead of &", worth("4+(2&1=1)", 0, 0, 0), 5);
        due("= ahead of |", worth("4+(0=1|1)", 0, 0, 0), 5);
        due("+ ahead of <", worth("1<1+1", 0, 0, 0), 1);
        due("- ahead of >", worth("2-2>0", 0, 0, 0), 0);
        due("* ahead of +", worth("1+2*3", 0, 0, 0), 7);
        due("* ahead of -", worth("9-2*3", 0, 0, 0), 3);
        due("/ ahead of +", worth("4+4/2", 0, 0, 0), 6);
        due("% ahead of +", worth("4+5%3", 0, 0, 0), 6);
        due("! ahead of *", worth("!0*5", 0, 0, 0), 5);
        due("! ahead of =", worth("!2=0", 0, 0, 0), 1);
        due("- by the left", worth("9-3-2", 0, 0, 0), 4);
        due("- and + by the left", worth("9-3+2", 0, 0, 0), 8);
        due("/ by the left", worth("60/3/2", 0, 0, 0), 10);
        due("/ and * by the left", worth("60/3*2", 0, 0, 0), 40);
        due("% and * by the left", worth("7%4*2", 0, 0, 0), 6);
        due("many of |", worth("0|0|0|0|7", 0, 0, 0), 1);
        due("many of &", worth("1&1&1&1&0", 0, 0, 0), 0);
    }

    private static void sums() {
        says("Ints that wrap");
        due("the most and 1", worth("(c+1=s)*7", MAX, MIN, 0), 7);
        due("the least less 1", worth("(c-1=s)*7", MIN, MAX, 0), 7);
        due("a product", worth("(9999*9999*9999=c)*7", (int) (9999L * 9999 * 9999), 0, 0), 7);
        due("a product that is 0", worth("c*c+7", 65536, 0, 0), 7);
        due("the least less itself", worth("(0-c=c)*7", MIN, 0, 0), 7);
        says("/ cut, % the rest that it leaves, both by 0 are 0");
        due("/ 0", worth("9+c/s", 7, 0, 0), 9);
        due("% 0", worth("9+c%s", 7, 0, 0), 9);
        due("/ 0 of 0", worth("9+c/s", 0, 0, 0), 9);
        due("% 0 of 0", worth("9+c%s", 0, 0, 0), 9);
        due("/ 0 of the least", worth("9+c/s", MIN, 0, 0), 9);
        due("% 0 of the least", worth("9+c%s", MIN, 0, 0), 9);
        due("/ -1 of the least wraps", worth("(c/s=c)*7", MIN, -1, 0), 7);
        due("% -1 of the least", worth("9+c%s", MIN, -1, 0), 9);
        due("-7 % 3", worth("9+c%s", -7, 3, 0), 8);
        due("7 % -3", worth("9+c%s", 7, -3, 0), 10);
        due("-7 % -3", worth("9+c%s", -7, -3, 0), 8);
        due("6 % 3", worth("9+c%s", 6, 3, 0), 9);
        says("| & < = > ! are 1 or 0, what is not 0 being true");
        int[] numbers = {MIN, -1, 0, 1, 2, MAX};
        for (int a : numbers) {
            due("!" + a, worth("!c+4", a, 0, 0), a == 0 ? 5 : 4);
            for (int b : numbers) {
                due(a + " | " + b, worth("4+(c|s)", a, b, 0), a == 0 && b == 0 ? 4 : 5);
                due(a + " & " + b, worth("4+(c&s)", a, b, 0), a == 0 || b == 0 ? 4 : 5);
                due(a + " < " + b, worth("4+(c<s)", a, b, 0), a < b ? 5 : 4);
                due(a + " = " + b, worth("4+(c=s)", a, b, 0), a == b ? 5 : 4);
                due(a + " > " + b, worth("4+(c>s)", a, b, 0), a > b ? 5 : 4);
            }
        }
    }

    private static void uses() {
        says("held within 0 to 99; without a TEXT 1.");
        RaddleMarks x = new RaddleMarks();
        edges.dueAll("without a text", 1, x.law(0, 0, 0, 0), x.law(0, MIN, MAX, -1), x.law(0, 100, 100, 100));
        Edges.read(x, 0, "c");
        int[] given = {MIN, -1, 0, 1, 98, 99, 100, MAX};
        int[] falls = {0, 0, 0, 1, 98, 99, 99, 99};
        int[] goes = {0, 0, 0, 1, 1, 1, 1, 1};
        for (int i = 0; i < given.length; i++) {
            due("falls of " + given[i], x.law(0, given[i], 50, 50), falls[i]);
        }
        says("held within 0 to 1; without a TEXT 1.");
        edges.dueAll("without a text", 1, x.law(1, 0, 0, 0), x.law(1, MIN, MAX, -1), x.law(1, 100, 100, 100));
        Edges.read(x, 1, "m");
        for (int i = 0; i < given.length; i++) {
            due("goes out of " + given[i], x.law(1, 50, 50, given[i]), goes[i]);
        }
        says("NAMES c the CELL, s its SNOW, h the rest of HOUR by 24;");
        RaddleMarks y = new RaddleMarks();
        Edges.read(y, 0, "(c=9)*h");
        y.hours(23);
        due("hours 0 to 22", y.ofCell(9, 0), 253);
        y.hours(1);
        due("hour 23", y.ofCell(9, 0), 276);
        y.hours(1);
        due("hour 24 is 0", y.ofCell(9, 0), 276);
        y.hours(1);
        due("hour 25 is 1", y.ofCell(9, 0), 277);
        due("no other cell", y.count(3), 277);
        Edges.read(y, 0, "s=277");
        y.hours(1);
        due("by its snow", y.count(3), 278);
        says("NAMES d how many CELLS it is, w WARMTH, m m of the SHEEP;");
        RaddleMarks z = new RaddleMarks();
        z.seeker(9, 0);
        z.sheep(9, 0, 99, 1);
        z.sheep(0, 0, 1, 1);
        Edges.read(z, 1, "d=9&w=99&m=9");
        due("the most of each", z.ofSeeker(0, 2), 0);
        Edges.read(z, 1, "d=9&w=1&m=0");
        due("the least of each", z.ofSeeker(0, 2), 1);
        z.send(0, 0, 0);
        due("no cells, not nine", z.ofSeeker(0, 2), -1);
        Edges.read(z, 1, "d=0&m=0");
        due("no cells", z.ofSeeker(0, 2), 1);
    }

    /** A topp that is not heard in hour 9999, but in 10000; the seeker beside it has no strength. */
    private static void onlyThought() {
        says("(All this is only thought, HOUR beyond 9999, too.)");
        RaddleMarks x = Edges.atHour(9999);
        Edges.read(x, 0, "h");
        x.seeker(0, 0);
        x.sheep(50, 0, 99, 1);
        Edges.write(x, 0, 8, 15, 15, 15, 15, 15, 15, 15, 15, 15, 15);
        due("snow of hour 9999", x.then(1, 0, 2), 15);
        due("snow of hour 10000", x.then(2, 0, 2), 31);
        due("cells of hour 9999", x.lies(0, 0, 0), 1023);
        Edges.read(x, 0, "0");
        x.snow(0, 1);
        Edges.write(x, 1, 8, 0);
        due("not behind one hour", x.add(0, 1), Edges.NONE);
        due("stronger behind one hour", x.strong(0, 0, 1), 1);
        edges.dueAll("none behind one hour", 0, x.then(1, 0, 1), x.start(0, 1, 1), x.odds(0, 1, 0));
        due("when", x.when(0), 2);
        due("then", x.then(60, 0, 1), 1);
        due("saved", x.saved(), 1);
        due("add", x.add(0, 2), 0);
        due("start", x.start(0, 2, 1), 1);
        due("missed", x.missed(60, 1), 0);
        due("order", x.order(1), 1);
        due("strong", x.strong(0, 0, 2), 0);
        due("odds, above", x.odds(0, 2, 0), 1);
        due("odds, below", x.odds(0, 2, 1), 5);
        x.tell(0);
        x.tell(1);
        due("check", x.check(), 0);
        due("hour", x.count(2), 9999);
        due("found", x.count(4), 0);
        due("snow", x.count(3), 1);
        due("the mark", x.ofSheep(0, 4), 1);
        due("the cell", x.ofSheep(0, 2), 0);
        due("the seeker's cell", x.ofSeeker(0, 0), 0);
        due("the strength", x.ofSeeker(0, 1), 0);
        due("no hour can be gone", x.hours(1), Edges.STATE);
    }

    private static void behind() {
        says("BEHIND n HOURS (0 to 60).");
        RaddleMarks x = new RaddleMarks();
        x.sheep(0, 4, 61, 0);
        x.snow(4, 1);
        due("warmth behind 0", x.then(0, 0, 0), 61);
        due("snow behind 0", x.then(0, 0, 2), 1);
        due("found behind 0", x.then(0, 0, 1), 0);
        due("warmth behind 1", x.then(1, 0, 0), 60);
        due("warmth behind 60", x.then(60, 0, 0), 1);
        due("snow behind 60", x.then(60, 0, 2), 61);
        edges.dueAll("beyond", Edges.BEYOND, x.then(-1, 0, 0), x.then(61, 0, 0));
        x.change(0, 3, 1);
        due("found behind 0", x.then(0, 0, 1), 1);
    }

    /** With a strength of 1 a plain sheep under s is found behind s - 5 hours. */
    private static void when() {
        says("behind how many HOURS (0 to 60) it is FOUND first.");
        RaddleMarks found = Edges.dig(1, 0, 999);
        found.change(0, 3, 1);
        due("now", found.when(0), 0);
        int[] snow = {0, 5, 6, 7, 8, 64, 65, 66, 67, 999};
        int[] want = {1, 1, 1, 2, 3, 59, 60, Edges.NONE, Edges.NONE, Edges.NONE};
        for (int i = 0; i < snow.length; i++) {
            due("under " + snow[i], Edges.dig(1, 0, snow[i]).when(0), want[i]);
        }
        says("SAVED: SHEEP that are FOUND behind 60 HOURS, as a set.");
        due("in the 60th hour", Edges.dig(1, 0, 65).saved(), 1);
        due("in the 61st hour", Edges.dig(1, 0, 66).saved(), 0);
        due("found now", found.saved(), 1);
        due("none are there", new RaddleMarks().saved(), 0);
        RaddleMarks all = Edges.dig(99, 0, 0);
        for (int i = 1; i < 7; i++) {
            all.sheep(0, 4, 99, 1);
        }
        due("all", all.saved(), 127);
    }

    private static void addWithin() {
        says("ADD for a SHEEP by n (0 to 20)");
        RaddleMarks x = Edges.dig(1, 0, 25);
        x.change(0, 2, 0);
        due("in the 20th hour", x.add(0, 20), 1);
        due("not in the 19th", x.add(0, 19), Edges.NONE);
        x.snow(4, 26);
        due("not in the 20th", x.add(0, 20), Edges.NONE);
        due("behind none", x.add(0, 0), Edges.NONE);
        x.change(0, 3, 1);
        due("found now, behind none", x.add(0, 0), 0);
        edges.dueAll("beyond", Edges.BEYOND, x.add(0, -1), x.add(0, 21));
        RaddleMarks none = new RaddleMarks();
        none.sheep(0, 0, 99, 0);
        due("no seekers", none.add(0, 20), Edges.NONE);
    }

    private static RaddleMarks diggers(int snow, int mark, int... strengths) {
        RaddleMarks x = Edges.still();
        for (int strength : strengths) {
            x.seeker(4, strength);
        }
        x.sheep(0, 4, 99, mark);
        x.snow(4, snow);
        return x;
    }

    private static void addFewest() {
        says("of several sets the least.");
        due("1 and 2 ahead of 0 and 3", diggers(25, 0, 8, 10, 10, 12).add(0, 1), 6);
        due("of single ones the first", diggers(15, 0, 9, 10, 10, 10).add(0, 1), 2);
        due("all alike", diggers(15, 0, 10, 10, 10, 10, 10, 10).add(0, 1), 1);
        says("the fewest SEEKERS");
        due("the last alone ahead of the first two", diggers(15, 0, 9, 9, 9, 9, 9, 10).add(0, 1), 32);
        due("two ahead of three", diggers(15, 0, 4, 4, 4, 1, 5, 5).add(0, 1), 48);
        due("all six", diggers(35, 0, 5, 5, 5, 5, 5, 5).add(0, 1), 63);
        due("not by all six", diggers(36, 0, 5, 5, 5, 5, 5, 5).add(0, 1), Edges.NONE);
        says("(besides those who are in it)");
        due("one more", diggers(25, 1, 8, 10, 10, 12).add(0, 1), 8);
        due("two more", diggers(25, 1, 0, 10, 10, 12).add(0, 1), 6);
        due("none more", diggers(25, 15, 8, 10, 10, 12).add(0, 1), 0);
        due("none more, though fewer would do", diggers(15, 12, 8, 10, 10, 12).add(0, 1), 0);
        due("all are in it", diggers(46, 15, 8, 10, 10, 12).add(0, 1), Edges.NONE);
        due("a pot of one alone, and no other seeker is there", Edges.dig(0, 60, 1).add(0, 20), Edges.NONE);
    }

    private static void start() {
        says("so that most SHEEP are FOUND behind n HOURS; of several the least; how many.");
        RaddleMarks x = Edges.still();
        x.seeker(5, 0);
        due("no sheep, the cell", x.start(0, 20, 0), 0);
        due("no sheep, how many", x.start(0, 20, 1), 0);
        x.sheep(0, 9, 99, 1);
        due("behind none, the cell", x.start(0, 0, 0), 0);
        due("behind none, how many", x.start(0, 0, 1), 0);
        due("behind one, the cell", x.start(0, 1, 0), 9);
        due("behind one, how many", x.start(0, 1, 1), 1);
        due("behind two, the least", x.start(0, 2, 0), 8);
        due("behind nine, the least", x.start(0, 9, 0), 1);
        due("behind ten, the least", x.start(0, 10, 0), 0);
        due("behind twenty, the least", x.start(0, 20, 0), 0);
        x.change(0, 0, 0);
        due("behind one, cell 0", x.start(0, 1, 0), 0);
        due("behind one, cell 0", x.start(0, 1, 1), 1);
        for (int i = 1; i < 7; i++) {
            x.sheep(0, 0, 99, 1);
        }
        due("all seven", x.start(0, 7, 1), 7);
        due("six of seven", x.start(0, 6, 1), 6);
        edges.dueAll("beyond", Edges.BEYOND, x.start(0, -1, 0), x.start(0, 21, 0));
    }

    /** One who came from beyond an end of the row would find the topp: a dig in the odd hour only brings more snow. */
    private static void startWithinCells() {
        says("the CELL AT which that one should be now");
        for (int end = 0; end <= 9; end += 9) {
            RaddleMarks x = Edges.atHour(1);
            x.seeker(4, 45);
            x.sheep(0, end == 0 ? 2 : 7, 99, 1);
            x.sheep(50, end, 99, 1);
            x.snow(end == 0 ? 2 : 7, 999);
            x.snow(end, 50);
            Edges.read(x, 0, end == 0 ? "(c=0)*(s<50)*99" : "(c=9)*(s<50)*99");
            due("how many, by cell " + end, x.start(0, 2, 1), 0);
            due("the cell, by cell " + end, x.start(0, 2, 0), 0);
            x.change(0, 1, 0);
            due("how many, where none is nearer", x.start(0, 2, 1), 1);
            due("the cell, where none is nearer", x.start(0, 2, 0), end == 0 ? 1 : 8);
        }
    }

    private static void missed() {
        says("MISSED by n: the SEEKER without whom (in no MARK) fewest SHEEP are FOUND behind n HOURS; of several the least; "
            + "how many.");
        RaddleMarks x = Edges.still();
        for (int i = 0; i < 6; i++) {
            x.seeker(i, 0);
        }
        due("no sheep, who", x.missed(60, 0), 0);
        due("no sheep, how many", x.missed(60, 1), 0);
        x.sheep(0, 5, 99, 32);
        x.sheep(0, 4, 99, 16);
        due("behind none, who", x.missed(0, 0), 0);
        due("behind none, how many", x.missed(0, 1), 0);
        due("of two the least", x.missed(1, 0), 4);
        due("of two the least", x.missed(1, 1), 1);
        x.change(1, 2, 63);
        due("the last", x.missed(2, 0), 5);
        due("the last", x.missed(2, 1), 1);
        x.change(0, 2, 63);
        due("all alike", x.missed(60, 0), 0);
        due("all alike", x.missed(60, 1), 2);
        x.change(0, 2, 0);
        x.change(1, 2, 0);
        x.change(0, 3, 1);
        due("one found now", x.missed(60, 1), 1);
        for (int i = 2; i < 7; i++) {
            x.sheep(0, 5, 99, 63);
        }
        for (int i = 0; i < 7; i++) {
            x.change(i, 3, 1);
        }
        due("all seven found now", x.missed(0, 1), 7);
        due("all seven found now", x.missed(60, 0), 0);
        RaddleMarks y = new RaddleMarks();
        y.seeker(0, 0);
        y.sheep(0, 0, 99, 1);
        due("the only one", y.missed(60, 0), 0);
        due("the only one", y.missed(60, 1), 0);
        edges.dueAll("beyond", Edges.BEYOND, y.missed(-1, 0), y.missed(61, 0));
    }

    /** Both together dig so deep that more snow falls, and find nothing; either alone finds the topp. */
    private static void missedThoughTwoFindLess() {
        says("the SEEKER without whom (in no MARK) fewest SHEEP are FOUND behind n HOURS");
        RaddleMarks x = Edges.atHour(1);
        x.seeker(4, 40);
        x.seeker(4, 40);
        x.sheep(50, 4, 99, 3);
        x.snow(4, 90);
        Edges.read(x, 0, "(s<50)*99");
        due("both", x.then(2, 0, 1), 0);
        due("who", x.missed(2, 0), 0);
        due("how many", x.missed(2, 1), 1);
    }

    private static void nobody() {
        says("NOBODY: SHEEP, neither FOUND nor LOST, for which no SEEKER is OUT now, as a set.");
        RaddleMarks x = new RaddleMarks();
        due("no sheep", x.nobody(), 0);
        for (int i = 0; i < 7; i++) {
            x.sheep(0, i, 1, 0);
        }
        due("no seekers", x.nobody(), 127);
        for (int i = 0; i < 6; i++) {
            x.seeker(i, 0);
            x.change(i, 2, 1 << i);
        }
        due("all but the last have one", x.nobody(), 64);
        x.change(6, 2, 63);
        due("marked by all, but each is nearer to another", x.nobody(), 64);
        x.change(5, 1, 0);
        due("now one is out for it, and the lost has nobody, too", x.nobody(), 0);
        x.change(6, 3, 1);
        due("the found", x.nobody(), 0);
        x.change(0, 2, 0);
        due("the first", x.nobody(), 1);
    }

    private static void lies() {
        says("CELLS in which a told SHEEP would have to lie now so that it is so: as a set; how many.");
        for (int cell = 0; cell < 10; cell++) {
            RaddleMarks x = Edges.still();
            x.seeker(cell, 1);
            x.sheep(0, 9 - cell, 99, 1);
            x.snow(cell, 999);
            Edges.write(x, 3, 16, 0, 0, 0, 0, 0, 0, 0, 0, 0, 0);
            due("nowhere", x.lies(3, 0, 0), 0);
            due("nowhere", x.lies(3, 0, 1), 0);
            x.put(3, cell, 998);
            due("in one", x.lies(3, 0, 0), 1 << cell);
            due("in one", x.lies(3, 0, 1), 1);
            x.put(3, cell, 999);
            due("in all but one", x.lies(3, 0, 0), 1023 - (1 << cell));
            due("in all but one", x.lies(3, 0, 1), 9);
            x.change(0, 3, 1);
            due("in all, as none digs for it", x.lies(3, 0, 0), 1023);
            due("in all, as none digs for it", x.lies(3, 0, 1), 10);
            x.put(3, 9 - cell, 1);
            due("nowhere, by another cell", x.lies(3, 0, 0), 0);
            due("it lies where it lay", x.ofSheep(0, 2), 9 - cell);
        }
    }

    private static void order() {
        says("as those that are not FOUND now are FOUND in 60 HOURS (in one HOUR that by the lesser SEEKER first): "
            + "how many are right, from the first on.");
        RaddleMarks x = Edges.still();
        for (int i = 0; i < 6; i++) {
            x.seeker(i, 0);
            x.sheep(0, i, 99, 1 << i);
        }
        x.sheep(0, 1, 99, 1);
        Edges.write(x, 0, 8, 0, 1, 2, 3, 4, 5, 6);
        due("all seven", x.order(0), 7);
        x.put(0, 6, 5);
        due("the last is not right", x.order(0), 6);
        x.put(0, 0, 6);
        due("the first is not right", x.order(0), 0);
        x.sheet(0, 8, 40);
        due("more than there are sheep", x.order(0), 1);
        x.sheet(0, 8, 0);
        due("none are told", x.order(0), 0);
        Edges.write(x, 0, 32, 256, 1);
        due("all bits count", x.order(0), 0);
        for (int i = 0; i < 7; i++) {
            x.change(i, 3, 1);
        }
        Edges.write(x, 0, 8, 0, 1);
        due("all are found now", x.order(0), 0);
        RaddleMarks y = Edges.still();
        y.seeker(3, 0);
        y.seeker(6, 0);
        y.sheep(0, 6, 99, 2);
        y.sheep(0, 3, 99, 1);
        Edges.write(y, 0, 16, 1, 0);
        due("by the lesser seeker, not the lesser sheep", y.order(0), 2);
        RaddleMarks late = Edges.dig(1, 0, 65);
        Edges.write(late, 0, 8, 0);
        due("in the 60th hour", late.order(0), 1);
        late.snow(4, 66);
        due("in the 61st hour", late.order(0), 0);
    }

    private static void strong() {
        says("the least STRENGTH (0 to 99) of that one with which it is FOUND behind n HOURS.");
        int[] snow = {0, 5, 6, 7, 103, 104, 105, 999};
        int[] want = {0, 0, 1, 2, 98, 99, Edges.NONE, Edges.NONE};
        for (int i = 0; i < snow.length; i++) {
            RaddleMarks x = Edges.dig(50, 0, snow[i]);
            due("under " + snow[i], x.strong(0, 0, 1), want[i]);
            due("it stays as strong", x.ofSeeker(0, 1), 50);
        }
        due("behind 20, with 1", Edges.dig(0, 0, 25).strong(0, 0, 20), 1);
        due("behind 20, with 2", Edges.dig(0, 0, 26).strong(0, 0, 20), 2);
        due("behind none", Edges.dig(0, 0, 0).strong(0, 0, 0), Edges.NONE);
        RaddleMarks y = Edges.dig(0, 0, 999);
        y.change(0, 3, 1);
        due("found now, behind none", y.strong(0, 0, 0), 0);
        RaddleMarks z = diggers(25, 1, 20, 0);
        due("one who isn't in its mark", z.strong(1, 0, 1), 0);
        z.change(0, 2, 3);
        z.snow(4, 26);
        due("one beside another", z.strong(1, 0, 1), 1);
    }

    /** A seeker at cell 0 finds behind n hours what lies in cells 0 to n - 1. */
    private static void odds() {
        says("a fraction in lowest terms (0 is 0 by 1).");
        int[] above = {0, 1, 1, 3, 2, 1, 3, 7, 4, 9, 1, 1};
        int[] below = {1, 10, 5, 10, 5, 2, 5, 10, 5, 10, 1, 1};
        RaddleMarks x = Edges.still();
        x.seeker(0, 0);
        x.sheep(0, 7, 99, 1);
        for (int n = 0; n < above.length; n++) {
            due("above, behind " + n, x.odds(0, n, 0), above[n]);
            due("below, behind " + n, x.odds(0, n, 1), below[n]);
        }
        due("above, behind 60", x.odds(0, 60, 0), 1);
        due("below, behind 60", x.odds(0, 60, 1), 1);
        x.change(0, 1, 0);
        due("lost, above", x.odds(0, 60, 0), 0);
        due("lost, below", x.odds(0, 60, 1), 1);
        x.change(0, 3, 1);
        due("found now, above", x.odds(0, 0, 0), 1);
        due("found now, below", x.odds(0, 0, 1), 1);
        due("the cell stays", x.ofSheep(0, 2), 7);
    }

    private static void draws() {
        says("z is told (1 at first); each makes it z * 1103515245 + 12345 (an int), and gives z >>> 8.");
        due("at first", new RaddleMarks().count(9), 1);
        for (int seed : new int[] {MIN, MAX, -1, 0, 1, 2, 12345, -1103515245, 1 << 30, 777}) {
            RaddleMarks x = Edges.still();
            x.seed(seed);
            x.loose(1);
            int z = (int) (seed * 1103515245L + 12345L);
            long draw = (z & 0xffffffffL) >> 8;
            due("z of " + seed, x.count(9), z);
            due("the cell of " + seed, x.ofCell((int) (draw % 10), 0), (int) (draw / 8 % 30));
            due("no other cell of " + seed, x.count(3), (int) (draw / 8 % 30));
        }
        says("SNOW of the CELL that is its rest by 10 is more by the rest by 30 of an eighth of it (cut; held); then AN HOUR.");
        RaddleMarks y = Edges.still();
        y.seed(1);
        y.snow(4, 997);
        y.loose(1);
        due("one more", y.ofCell(4, 0), 998);
        y.seed(1);
        y.loose(1);
        due("to the most", y.ofCell(4, 0), 999);
        y.seed(1);
        y.loose(1);
        due("held", y.ofCell(4, 0), 999);
        due("an hour each", y.count(2), 3);
        RaddleMarks z = Edges.dig(0, 0, 4);
        due("heard under what has drifted", z.loose(1), 1);
        z.change(0, 3, 0);
        z.seed(1);
        due("not under one more", z.loose(1), 0);
    }

    private static void voices() {
        says("VOICES of a SHEEP, with a number x (ints that go round);");
        RaddleMarks x = new RaddleMarks();
        for (int i = 0; i < 7; i++) {
            x.sheep(9, 0, 0, 0);
        }
        int[][] values = {{11, 22, 2, 20}, {33, 66, 2, 64}, {11, 24, 2, 26}, {11, 22, -2, -24}, {33, 66, 2, 40},
            {11, 26, 2, 24}, {11, 22, -8, 40}};
        for (int i = 0; i < 28; i++) {
            x.become(6, i / 4 * 10 + 3);
            due("kind " + i / 4 + ", act " + i % 4, x.voice(6, i % 4, 5), values[i / 4][i % 4]);
        }
        x.become(6, 9);
        due("bleats of the most", x.voice(6, 0, MAX), MIN + 5);
        due("waits of the most", x.voice(0, 1, MAX), -2);
        due("waits of the least", x.voice(0, 1, MIN), 0);
        due("shivers of the least", x.voice(0, 2, MIN), MAX - 8);
        due("tells of the least", x.voice(0, 3, MIN), MAX - 8);
        x.become(0, 10);
        due("bleats of a tup", x.voice(0, 0, MAX), MAX - 2);
        x.become(0, 30);
        due("shivers of a lamb, of the least", x.voice(0, 2, MIN), MIN);
        x.become(0, 50);
        due("waits of a topp, of the most", x.voice(0, 1, MAX), -1);
        x.become(6, 60);
        due("shivers of a pot, of the least", x.voice(6, 2, MIN), MIN + 6);
    }

    private static void trace() {
        says("the numbers of BODIES of the latest voice(), as they began (what stands left is worked out first), the first 40.");
        int[][] bodies = {
            {10}, {11, 10}, {12}, {13, 11, 10, 12},
            {20, 10}, {11, 20, 10}, {12}, {13, 11, 20, 10, 12},
            {10}, {30, 11, 10, 12}, {12}, {13, 30, 11, 10, 12, 12},
            {10}, {11, 10}, {40, 12}, {13, 11, 10, 40, 12},
            {20, 10}, {11, 20, 10}, {12}, {50, 13, 11, 20, 10, 12, 20, 10},
            {10}, {60, 30, 11, 10, 12}, {12}, {13, 60, 30, 11, 10, 12, 12},
            {10}, {11, 10}, {70, 40, 12}, {71, 11, 10, 13, 11, 10, 70, 40, 12}};
        RaddleMarks x = new RaddleMarks();
        due("at first, how many", x.count(8), 0);
        due("at first", x.trace(0), Edges.NONE);
        x.sheep(0, 0, 0, 0);
        for (int i = 0; i < bodies.length; i++) {
            x.become(0, i / 4 * 10);
            x.voice(0, i % 4, 5);
            edges.dueRow("kind " + i / 4 + ", act " + i % 4, Edges.trace(x), bodies[i]);
            due("behind the last", x.trace(bodies[i].length), Edges.NONE);
        }
        x.voice(1, 0, 0);
        due("a refused voice leaves it", x.count(8), 9);
    }

    private static void sheets() {
        says("SHEETS 0 .. 3 are rows of 8, 16, 32 bits, at most 40 numbers, or missing (as at first).");
        for (int bits : new int[] {8, 16, 32}) {
            RaddleMarks x = new RaddleMarks();
            for (int sheet = 0; sheet < 4; sheet++) {
                due("missing at first", x.put(sheet, 0, 0), Edges.NONE);
                due("none", x.sheet(sheet, bits, 0), 1);
                due("none", x.put(sheet, 0, 0), Edges.BEYOND);
                due("one", x.sheet(sheet, bits, 1), 1);
                due("one", x.put(sheet, 0, 0), 1);
                due("and no more", x.put(sheet, 1, 0), Edges.BEYOND);
                due("forty", x.sheet(sheet, bits, 40), 1);
                due("the last", x.put(sheet, 39, 0), 1);
                due("and no more", x.put(sheet, 40, 0), Edges.BEYOND);
                due("41", x.sheet(sheet, bits, 41), Edges.BEYOND);
                due("forty stay", x.put(sheet, 39, 0), 1);
                due("missing again", x.sheet(sheet, 0, 0), 1);
                due("missing again", x.put(sheet, 0, 0), Edges.NONE);
            }
            edges.dueAll("no other sheet", Edges.BEYOND, x.sheet(-1, bits, 1), x.sheet(4, bits, 1));
        }
    }
}
