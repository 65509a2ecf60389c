/** Each promise by hand: ordinary inputs, the edges that the document names, wrong inputs. */
public final class PromisesTest {
    private static final int BEYOND = -1000000001;
    private static final int NONE = -1000000002;
    private static final int STATE = -1000000003;
    private static final int FULL = -1000000004;
    private static final int KIND = -1000000005;
    private static final int MIN = Integer.MIN_VALUE;
    private static final int MAX = Integer.MAX_VALUE;

    private static int promise;
    private static int asked;
    private static int wrong;

    private static void due(String what, int got, int want) {
        asked++;
        if (got != want) {
            wrong++;
            System.out.println("promise " + promise + ": " + what + " answered " + got + ", due is " + want);
        }
    }

    private static void dueAll(String what, int want, int... got) {
        for (int i = 0; i < got.length; i++) {
            due(what + " (" + i + ")", got[i], want);
        }
    }

    private static int read(RaddleMarks x, int use, String text) {
        for (int i = 0; i < text.length(); i++) {
            x.feed(text.charAt(i), 1);
        }
        return x.text(use);
    }

    private static int worth(String text, int c, int s, int h) {
        RaddleMarks x = new RaddleMarks();
        due("text " + text, read(x, 0, text), 1);
        return x.law(0, c, s, h);
    }

    private static void goTo9999(RaddleMarks x) {
        for (int i = 0; i < 166; i++) {
            x.hours(60);
        }
        x.hours(39);
    }

    private static void tellAll(RaddleMarks x, int sheet, int bits, int... numbers) {
        x.sheet(sheet, bits, numbers.length);
        for (int i = 0; i < numbers.length; i++) {
            x.put(sheet, i, numbers[i]);
        }
    }

    public static void main(String[] args) {
        aNewObject();
        snowAndCells();
        seekers();
        sheep();
        heardAndCold();
        changes();
        feeding();
        faults();
        sums();
        laws();
        hours();
        hoursTogether();
        hoursByLaws();
        theLastHour();
        loose();
        thenWhenSaved();
        add();
        start();
        missed();
        nobody();
        lies();
        order();
        strong();
        odds();
        voices();
        sheets();
        moving();
        snowsAndJudge();
        images();
        telling();
        counts();
        told();
        System.out.println("promises: " + asked + " asked, " + wrong + " wrong");
        if (wrong != 0) {
            System.exit(1);
        }
    }

    private static void aNewObject() {
        promise = 1;
        RaddleMarks x = new RaddleMarks();
        for (int what = 0; what <= 8; what++) {
            due("count " + what, x.count(what), 0);
        }
        due("z", x.count(9), 1);
        for (int cell = 0; cell < 10; cell++) {
            dueAll("cell " + cell, 0, x.ofCell(cell, 0), x.ofCell(cell, 1), x.ofCell(cell, 2));
        }
        for (int k = 1; k <= 5; k++) {
            due("told " + k, x.told(k), 0);
        }
        for (int sheet = 0; sheet < 4; sheet++) {
            due("sheet " + sheet, x.judge(sheet), NONE);
        }
        due("no trace", x.trace(0), NONE);
        due("no image", x.restore(), NONE);
        dueAll("no one", BEYOND, x.ofSeeker(0, 0), x.ofSheep(0, 0));
    }

    private static void snowAndCells() {
        promise = 2;
        RaddleMarks x = new RaddleMarks();
        due("first", x.snow(0, 999), 0);
        due("second", x.snow(0, 0), 999);
        due("last cell", x.snow(9, 7), 0);
        dueAll("wrong", BEYOND, x.snow(-1, 0), x.snow(10, 0), x.snow(0, -1), x.snow(0, 1000), x.snow(MIN, 0),
            x.snow(MAX, 0), x.snow(3, MIN), x.snow(3, MAX));
        promise = 3;
        due("snow", x.ofCell(9, 0), 7);
        x.seeker(9, 1);
        x.seeker(3, 1);
        x.seeker(9, 1);
        x.sheep(0, 9, 5, 0);
        x.sheep(0, 3, 0, 0);
        x.sheep(0, 9, 5, 0);
        x.change(2, 3, 1);
        due("seekers", x.ofCell(9, 1), 5);
        due("sheep, found or not", x.ofCell(9, 2), 5);
        due("sheep, lost", x.ofCell(3, 2), 2);
        due("empty", x.ofCell(5, 1), 0);
        dueAll("wrong", BEYOND, x.ofCell(-1, 0), x.ofCell(10, 0), x.ofCell(0, 3), x.ofCell(0, -1), x.ofCell(MIN, MIN));
    }

    private static void seekers() {
        promise = 4;
        RaddleMarks x = new RaddleMarks();
        dueAll("wrong", BEYOND, x.seeker(-1, 0), x.seeker(10, 0), x.seeker(0, -1), x.seeker(0, 100), x.seeker(MAX, MIN));
        for (int i = 0; i < 6; i++) {
            due("number", x.seeker(i, 99 - i), i);
        }
        due("seventh", x.seeker(0, 0), FULL);
        due("beyond ahead of full", x.seeker(0, 100), BEYOND);
        promise = 5;
        due("at", x.ofSeeker(5, 0), 5);
        due("strength", x.ofSeeker(5, 1), 94);
        due("out for none", x.ofSeeker(5, 2), -1);
        dueAll("wrong", BEYOND, x.ofSeeker(6, 0), x.ofSeeker(-1, 0), x.ofSeeker(0, 3), x.ofSeeker(0, -1));
        x.sheep(0, 7, 10, 63);
        x.sheep(0, 3, 10, 63);
        due("of two as far the least", x.ofSeeker(5, 2), 0);
        x.sheep(0, 4, 10, 63);
        due("the nearest", x.ofSeeker(5, 2), 2);
        x.sheep(0, 5, 0, 63);
        due("not the lost", x.ofSeeker(5, 2), 2);
        x.sheep(0, 5, 10, 31);
        due("not one whose mark lacks it", x.ofSeeker(5, 2), 2);
        x.change(2, 3, 1);
        due("not the found", x.ofSeeker(5, 2), 0);
        read(x, 1, "d=5");
        due("by the text", x.ofSeeker(2, 2), 0);
        due("by the text, none", x.ofSeeker(5, 2), -1);
        read(x, 1, "0-1");
        due("held at 0", x.ofSeeker(2, 2), -1);
        promise = 6;
        due("at was", x.send(5, 0, 9), 5);
        due("at is", x.ofSeeker(5, 0), 9);
        due("strength was", x.send(5, 1, 99), 94);
        due("strength is", x.send(5, 1, 0), 99);
        dueAll("wrong", BEYOND, x.send(6, 0, 0), x.send(-1, 0, 0), x.send(0, 2, 0), x.send(0, -1, 0), x.send(0, 0, 10),
            x.send(0, 0, -1), x.send(0, 1, 100), x.send(0, 1, -1));
        due("stays", x.ofSeeker(0, 0), 0);
        due("stays", x.ofSeeker(0, 1), 99);
    }

    private static void sheep() {
        promise = 7;
        RaddleMarks x = new RaddleMarks();
        due("a mark of no seeker", x.sheep(0, 0, 0, 1), BEYOND);
        x.seeker(0, 0);
        x.seeker(0, 0);
        dueAll("wrong", BEYOND, x.sheep(-1, 0, 0, 0), x.sheep(70, 0, 0, 0), x.sheep(0, -1, 0, 0), x.sheep(0, 10, 0, 0),
            x.sheep(0, 0, -1, 0), x.sheep(0, 0, 100, 0), x.sheep(0, 0, 0, 4), x.sheep(0, 0, 0, -1));
        for (int i = 0; i < 7; i++) {
            due("number", x.sheep(10 * i + 9 - i, i, 99 - i, i % 4), i);
        }
        due("eighth", x.sheep(0, 0, 0, 0), FULL);
        due("beyond ahead of full", x.sheep(70, 0, 0, 0), BEYOND);
        promise = 8;
        for (int i = 0; i < 7; i++) {
            due("kind", x.ofSheep(i, 0), i);
            due("m", x.ofSheep(i, 1), 9 - i);
            due("cell", x.ofSheep(i, 2), i);
            due("warmth", x.ofSheep(i, 3), 99 - i);
            due("mark", x.ofSheep(i, 4), i % 4);
            due("found", x.ofSheep(i, 5), 0);
        }
        dueAll("wrong", BEYOND, x.ofSheep(7, 0), x.ofSheep(-1, 0), x.ofSheep(0, 8), x.ofSheep(0, -1));
    }

    private static void heardAndCold() {
        promise = 8;
        RaddleMarks x = new RaddleMarks();
        x.seeker(0, 0);
        x.seeker(0, 0);
        x.seeker(0, 0);
        int[] km = {7, 17, 27, 37, 47, 57, 67};
        int[] heardEven = {5, 12, 10, 2, 62, 10, 2};
        int[] heardOdd = {5, 12, 10, 2, 62, 0, 2};
        int[] coldEven = {1, 1, 2, 3, 1, 2, 3};
        int[] coldOdd = {1, 0, 2, 3, 0, 2, 3};
        for (int i = 0; i < 7; i++) {
            x.sheep(km[i], 0, 50, 3);
            due("heard, even hour, kind " + i, x.ofSheep(i, 6), heardEven[i]);
            due("cold, even hour, kind " + i, x.ofSheep(i, 7), coldEven[i]);
        }
        x.hours(1);
        for (int i = 0; i < 7; i++) {
            due("heard, odd hour, kind " + i, x.ofSheep(i, 6), heardOdd[i]);
            due("cold, odd hour, kind " + i, x.ofSheep(i, 7), coldOdd[i]);
        }
        int[] marks = {0, 1, 2, 4, 5, 7};
        int[] heardOfPot = {2, 0, 0, 0, 2, 2};
        for (int i = 0; i < marks.length; i++) {
            x.change(6, 2, marks[i]);
            due("heard, pot of mark " + marks[i], x.ofSheep(6, 6), heardOfPot[i]);
        }
        x.change(3, 2, 1);
        due("a lamb of one alone", x.ofSheep(3, 6), 2);
        x.become(0, 39);
        due("lamb 9", x.ofSheep(0, 6), 1);
        x.become(0, 26);
        due("ewe 6", x.ofSheep(0, 7), 1);
        x.become(0, 49);
        due("bell 9", x.ofSheep(0, 6), 64);
    }

    private static void changes() {
        promise = 9;
        RaddleMarks x = new RaddleMarks();
        x.seeker(0, 0);
        x.seeker(0, 0);
        x.sheep(12, 3, 40, 1);
        due("cell", x.change(0, 0, 9), 3);
        due("cell", x.ofSheep(0, 2), 9);
        due("warmth", x.change(0, 1, 99), 40);
        due("warmth", x.ofSheep(0, 3), 99);
        due("mark", x.change(0, 2, 3), 1);
        due("mark", x.ofSheep(0, 4), 3);
        due("found", x.change(0, 3, 1), 0);
        due("found", x.ofSheep(0, 5), 1);
        due("not found", x.change(0, 3, 0), 1);
        due("not found", x.ofSheep(0, 5), 0);
        dueAll("wrong", BEYOND, x.change(1, 0, 0), x.change(-1, 0, 0), x.change(0, 4, 0), x.change(0, -1, 0),
            x.change(0, 0, 10), x.change(0, 0, -1), x.change(0, 1, 100), x.change(0, 1, -1), x.change(0, 2, 4),
            x.change(0, 2, -1), x.change(0, 3, 2), x.change(0, 3, -1));
        promise = 10;
        due("was", x.become(0, 69), 1);
        due("m", x.ofSheep(0, 1), 9);
        due("was", x.become(0, 65), 6);
        due("kind", x.ofSheep(0, 0), 6);
        due("m", x.ofSheep(0, 1), 5);
        due("cell stays", x.ofSheep(0, 2), 9);
        dueAll("wrong", BEYOND, x.become(1, 0), x.become(-1, 0), x.become(0, 70), x.become(0, -1));
        due("stays", x.ofSheep(0, 0), 6);
        promise = 11;
        int[] above = {-1, 0, 0, 0, 1, 2, 3};
        for (int kind = 0; kind < 7; kind++) {
            x.become(0, 10 * kind + 4);
            for (int as = 0; as < 7; as++) {
                boolean is = as == kind || as == 0 || as == above[kind];
                due(kind + " as " + as, x.as(0, as), is ? 4 : KIND);
            }
        }
        dueAll("wrong", BEYOND, x.as(1, 0), x.as(-1, 0), x.as(0, 7), x.as(0, -1));
    }

    private static void feeding() {
        promise = 12;
        RaddleMarks x = new RaddleMarks();
        dueAll("wrong", BEYOND, x.feed(0, 0), x.feed(0, 9), x.feed(0, -1), x.feed(0, MIN), x.feed(0, MAX));
        due("one", x.feed('1' | '2' << 8, 1), 1);
        due("two, the lowest first", x.feed('+' | '4' << 8 | '9' << 16, 2), 3);
        due("text", x.text(0), 1);
        due("law", x.law(0, 0, 0, 0), 5);
        due("the highest byte", x.feed((long) 'c' << 56 | 0x313131_31313131L, 8), 8);
        due("a number of five digits", x.text(0), -14);
        for (int i = 1; i <= 6; i++) {
            due("eight", x.feed(-1L, 8), 8 * i);
        }
        due("full", x.feed(0, 3), FULL);
        due("beyond ahead of full", x.feed(0, 9), BEYOND);
        due("fifty", x.feed(0, 2), 50);
        due("full", x.feed(0, 1), FULL);
        due("count", x.count(6), 50);
    }

    private static void faults() {
        promise = 13;
        String[] right = {"c", "s", "h", "0", "9999", "!c", "(c)", "1<2&3<4", "1<2|3=4", "(1<2)<3", "1<(2<3)", "!!!!!1",
            "(((((1)))))", "!(!(!1))", "!!!!!c|(((((1)))))", "!!!!!c+!!!!!c", "((((!c))))", "1+2-3*4/5%6", "0000"};
        for (String text : right) {
            due(text, read(new RaddleMarks(), 0, text), 1);
        }
        String[] faulty = {"", "+", "c+", "12345", "1<2<3", "1<2=3", "1=2+3>4", "!!!!!!1", "((((((1", "!(!(!(1", "(1", "1)",
            "()", "d", "x", " c", "c c", "cc", "c1", "1c", "!", "1!", "(1<2<3)", "((((!(", "c)", "1|&2", "C", "(c", "12 ",
            "!!!!!c+!!!!!!", "(1+2", "1<", "1&1<2&3>4>5"};
        int[] places = {0, 0, 2, 4, 3, 3, 5, 5, 5, 5, 2, 1,
            1, 0, 0, 0, 1, 1, 1, 1, 1, 1, 4, 5, 1, 2, 0, 2, 2,
            12, 4, 2, 9};
        for (int i = 0; i < faulty.length; i++) {
            due("fault of " + faulty[i], read(new RaddleMarks(), 0, faulty[i]), -10 - places[i]);
        }
        due("a sign above 127", read(new RaddleMarks(), 0, "c+" + (char) 233), -12);
        due("a sign of 0", read(new RaddleMarks(), 0, "c" + (char) 0), -11);
        due("names of the other use", read(new RaddleMarks(), 1, "d+w+m+c"), -16);
        String fifty = "c+c+c+c+c+c+c+c+c+c+c+c+c+c+c+c+c+c+c+c+c+c+c+c+10";
        due("fifty signs", worth(fifty, 1, 0, 0), 34);
        due("fifty ends too early", read(new RaddleMarks(), 0, fifty.substring(0, 48) + "(("), -60);
        RaddleMarks x = new RaddleMarks();
        x.feed('5', 1);
        dueAll("wrong", BEYOND, x.text(-1), x.text(2), x.text(MAX));
        due("the tape stays", x.count(6), 1);
        due("text", x.text(0), 1);
        due("the tape is empty", x.count(6), 0);
        due("a fault", read(x, 0, "7+"), -12);
        due("the tape is empty", x.count(6), 0);
        due("the one ahead stays", x.law(0, 0, 0, 0), 5);
        due("no error", x.told(1), 3);
        due("another in its place", read(x, 0, "8"), 1);
        due("another in its place", x.law(0, 0, 0, 0), 8);
        due("the other use", x.law(1, 0, 0, 0), 1);
    }

    private static void sums() {
        promise = 13;
        due("1+2*3", worth("1+2*3", 0, 0, 0), 7);
        due("(1+2)*3", worth("(1+2)*3", 0, 0, 0), 9);
        due("(0|4)*3", worth("(0|4)*3", 0, 0, 0), 3);
        due("(1<2)*(3&4)+(5=5)", worth("(1<2)*(3&4)+(5=5)", 0, 0, 0), 2);
        due("9-2-3", worth("9-2-3", 0, 0, 0), 4);
        due("17%10/2*3", worth("17%10/2*3", 0, 0, 0), 9);
        due("1|0&0", worth("1|0&0", 0, 0, 0), 1);
        due("1<2+3", worth("1<2+3", 0, 0, 0), 1);
        due("2=1+1&7", worth("2=1+1&7", 0, 0, 0), 1);
        due("5&3", worth("5&3", 0, 0, 0), 1);
        due("5&0", worth("5&0", 0, 0, 0), 0);
        due("0|9", worth("0|9", 0, 0, 0), 1);
        due("0|0", worth("0|0", 0, 0, 0), 0);
        due("!0+1", worth("!0+1", 0, 0, 0), 2);
        due("!7+1", worth("!7+1", 0, 0, 0), 1);
        due("!!7", worth("!!7", 0, 0, 0), 1);
        due("2<2", worth("2<2", 0, 0, 0), 0);
        due("2>2", worth("2>2", 0, 0, 0), 0);
        due("3>2", worth("3>2", 0, 0, 0), 1);
        due("3=2", worth("3=2", 0, 0, 0), 0);
        due("7/0+4", worth("7/0+4", 0, 0, 0), 4);
        due("7%0+4", worth("7%0+4", 0, 0, 0), 4);
        due("cut toward 0", worth("0-c/2", -3, 0, 0), 1);
        due("the rest that it leaves", worth("0-c%2", -3, 0, 0), 1);
        due("wraps", worth("c*c+3", 65536, 0, 0), 3);
        due("wraps", worth("(c+1<0)*9", MAX, 0, 0), 9);
        due("least by -1", worth("(c/s=c)*9", MIN, -1, 0), 9);
        due("rest of least by -1", worth("(c%s=0)*9", MIN, -1, 0), 9);
        due("names", worth("c+s*10-h", 3, 4, 5), 38);
    }

    private static void laws() {
        promise = 14;
        RaddleMarks x = new RaddleMarks();
        due("falls without a text", x.law(0, 5, 5, 5), 1);
        due("goes out without a text", x.law(1, 5, 5, 5), 1);
        dueAll("wrong", BEYOND, x.law(-1, 0, 0, 0), x.law(2, 0, 0, 0));
        read(x, 0, "c");
        read(x, 1, "d+w-m");
        due("falls", x.law(0, 99, 0, 0), 99);
        due("falls, held above", x.law(0, 100, 0, 0), 99);
        due("falls, held below", x.law(0, -1, 0, 0), 0);
        due("falls, far below", x.law(0, MIN, 0, 0), 0);
        due("goes out, held above", x.law(1, 2, 3, 1), 1);
        due("goes out, 0", x.law(1, 2, 3, 5), 0);
        due("goes out, held below", x.law(1, 2, 3, 9), 0);
    }

    private static void hours() {
        promise = 15;
        RaddleMarks x = new RaddleMarks();
        x.seeker(2, 3);
        x.sheep(0, 3, 10, 1);
        x.snow(3, 10);
        dueAll("wrong", BEYOND, x.hours(0), x.hours(61), x.hours(-1), x.hours(MIN), x.hours(MAX));
        due("an hour", x.hours(1), 0);
        due("hour", x.count(2), 1);
        due("one goes", x.ofSeeker(0, 0), 3);
        due("and does not dig", x.ofCell(3, 0), 11);
        due("snow in all", x.count(3), 20);
        due("warmth", x.ofSheep(0, 3), 9);
        due("two hours", x.hours(2), 0);
        due("dug", x.ofCell(3, 0), 7);
        due("warmth", x.ofSheep(0, 3), 7);
        due("found", x.hours(1), 1);
        due("dug", x.ofCell(3, 0), 5);
        due("warmth of the found stays", x.ofSheep(0, 3), 7);
        due("sixty", x.hours(60), 1);
        due("snow", x.ofCell(3, 0), 65);
        x.snow(3, 998);
        x.hours(2);
        due("snow held", x.ofCell(3, 0), 999);
        x.send(0, 0, 5);
        x.change(0, 3, 0);
        x.change(0, 0, 4);
        x.snow(4, 30);
        x.hours(1);
        due("one goes to lesser cells", x.ofSeeker(0, 0), 4);
        x.send(0, 1, 99);
        due("found anew", x.hours(1), 1);
        due("0 at least", x.ofCell(4, 0), 0);
    }

    private static void hoursTogether() {
        promise = 15;
        RaddleMarks x = new RaddleMarks();
        x.seeker(4, 3);
        x.seeker(4, 3);
        x.sheep(0, 4, 1, 3);
        x.sheep(0, 6, 1, 2);
        x.sheep(31, 8, 2, 0);
        due("found in the hour in which it would be lost", x.hours(1), 1);
        due("the second by how all is then", x.ofSeeker(1, 0), 5);
        due("lost", x.count(5), 6);
        due("0 at least", x.ofSheep(2, 3), 0);
        x.hours(1);
        due("none goes for the lost", x.ofSeeker(1, 0), 5);
        RaddleMarks y = new RaddleMarks();
        y.seeker(1, 10);
        y.seeker(1, 10);
        y.sheep(0, 1, 50, 3);
        y.snow(1, 24);
        due("two dig in one hour", y.hours(1), 1);
        due("two dig in one hour", y.ofCell(1, 0), 5);
        RaddleMarks z = new RaddleMarks();
        z.seeker(1, 0);
        z.sheep(59, 1, 50, 1);
        z.hours(1);
        due("topp in hour 0", z.count(4), 1);
        z.change(0, 3, 0);
        z.snow(1, 0);
        due("topp in hour 1", z.hours(1), 0);
        due("cold of topp", z.ofSheep(0, 3), 48);
        due("topp in hour 2", z.hours(1), 1);
    }

    private static void hoursByLaws() {
        promise = 15;
        RaddleMarks x = new RaddleMarks();
        x.sheep(0, 0, 50, 0);
        x.sheep(10, 1, 50, 0);
        x.snow(1, 5);
        read(x, 0, "c*(h=1)+(s>4)");
        x.hours(1);
        due("by snow", x.ofCell(1, 0), 6);
        due("none", x.ofCell(2, 0), 0);
        due("warm without snow", x.ofSheep(0, 3), 50);
        due("cold of a tup in an even hour", x.ofSheep(1, 3), 49);
        x.hours(1);
        due("by cell and hour", x.ofCell(9, 0), 9);
        due("by all", x.ofCell(1, 0), 8);
        due("no cold of a tup in an odd hour", x.ofSheep(1, 3), 49);
        x.hours(22);
        x.snow(9, 0);
        x.hours(2);
        due("hour by 24", x.ofCell(9, 0), 9);
        RaddleMarks y = new RaddleMarks();
        y.seeker(0, 9);
        y.sheep(4, 2, 50, 1);
        y.sheep(6, 7, 50, 1);
        read(y, 1, "m>5&w>48|d>8");
        y.hours(1);
        due("goes for the far one", y.ofSeeker(0, 2), 1);
        y.hours(2);
        due("goes for none when it is colder", y.ofSeeker(0, 2), -1);
        due("stands", y.ofSeeker(0, 0), 2);
    }

    private static void theLastHour() {
        promise = 15;
        RaddleMarks x = new RaddleMarks();
        read(x, 0, "0");
        goTo9999(x);
        due("hour", x.count(2), 9999);
        due("state", x.hours(1), STATE);
        due("beyond ahead of state", x.hours(61), BEYOND);
        promise = 16;
        due("state", x.loose(1), STATE);
        due("beyond ahead of state", x.loose(41), BEYOND);
        due("z stays", x.count(9), 1);
        due("hour stays", x.count(2), 9999);
        promise = 17;
        read(x, 0, "1");
        x.seeker(0, 0);
        x.sheep(19, 2, 9, 1);
        x.sheep(50, 0, 9, 1);
        due("hour 9999 is odd", x.then(1, 0, 0), 9);
        due("hour 10000 is even", x.then(2, 0, 0), 8);
        due("60 hours behind 9999", x.then(60, 0, 2), 60);
        due("topp in hour 9999", x.then(1, 1, 1), 0);
        due("topp in hour 10000", x.then(2, 1, 1), 1);
        read(x, 0, "h");
        due("10000 by 24", x.then(2, 0, 2), 15 + 16);
        due("hour stays", x.count(2), 9999);
        RaddleMarks y = new RaddleMarks();
        y.image();
        promise = 15;
        for (int i = 0; i < 166; i++) {
            y.hours(60);
        }
        due("40 are too many", y.hours(40), STATE);
        due("39 are not", y.hours(9), 0);
        promise = 16;
        due("31 are too many", y.loose(31), STATE);
        due("30 are not", y.loose(30), 0);
        due("the last hour", y.count(2), 9999);
    }

    private static void loose() {
        promise = 16;
        RaddleMarks x = new RaddleMarks();
        dueAll("wrong", BEYOND, x.loose(0), x.loose(41), x.loose(-1), x.loose(MIN));
        due("found", x.loose(1), 0);
        due("z", x.count(9), 1103527590);
        due("snow of the cell", x.ofCell(4, 0), 2);
        due("snow in all", x.count(3), 11);
        x.seed(1);
        x.snow(4, 999);
        x.loose(1);
        due("snow held", x.ofCell(4, 0), 999);
        RaddleMarks y = new RaddleMarks();
        y.seeker(4, 0);
        y.sheep(0, 4, 50, 1);
        y.snow(4, 3);
        due("found", y.loose(1), 1);
        y.change(0, 3, 0);
        y.seed(1);
        y.snow(4, 4);
        due("not found: it drifts ahead of the hour", y.loose(1), 0);
        due("forty", y.loose(40), 0);
        due("hour", y.count(2), 42);
    }

    private static void thenWhenSaved() {
        promise = 17;
        RaddleMarks x = new RaddleMarks();
        x.seeker(2, 3);
        x.sheep(0, 3, 10, 1);
        x.sheep(30, 8, 10, 0);
        x.snow(3, 10);
        dueAll("wrong", BEYOND, x.then(-1, 0, 0), x.then(61, 0, 0), x.then(0, 2, 0), x.then(0, -1, 0), x.then(0, 0, 3),
            x.then(0, 0, -1));
        due("now", x.then(0, 0, 0), 10);
        due("now", x.then(0, 0, 2), 10);
        due("warmth", x.then(3, 0, 0), 7);
        due("not found", x.then(3, 0, 1), 0);
        due("found", x.then(4, 0, 1), 1);
        due("snow", x.then(4, 0, 2), 5);
        due("warmth of the other", x.then(3, 1, 0), 1);
        due("lost", x.then(60, 1, 0), 0);
        due("snow behind 60", x.then(60, 1, 2), 60);
        promise = 18;
        due("when", x.when(0), 4);
        due("never", x.when(1), NONE);
        dueAll("wrong", BEYOND, x.when(2), x.when(-1));
        x.change(1, 3, 1);
        due("now", x.when(1), 0);
        promise = 19;
        due("saved", x.saved(), 3);
        x.change(1, 3, 0);
        due("saved", x.saved(), 1);
        promise = 17;
        due("only thought", x.count(2), 0);
        due("only thought", x.ofCell(3, 0), 10);
        due("only thought", x.ofSeeker(0, 0), 2);
        due("only thought", x.ofSheep(0, 3), 10);
        due("only thought", x.ofSheep(0, 5), 0);
        promise = 18;
        x.change(0, 1, 99);
        x.snow(3, 189);
        x.send(0, 1, 4);
        x.send(0, 0, 3);
        due("not in the 61st hour", x.when(0), NONE);
        x.snow(3, 188);
        due("not in the 61st hour", x.when(0), NONE);
        x.snow(3, 185);
        due("in the 60th hour", x.when(0), 60);
        promise = 19;
        due("in the 60th hour", x.saved(), 1);
        x.snow(3, 186);
        due("in the 61st hour", x.saved(), 0);
    }

    private static void add() {
        promise = 20;
        RaddleMarks x = new RaddleMarks();
        x.seeker(0, 0);
        x.seeker(5, 15);
        x.seeker(5, 15);
        x.seeker(4, 50);
        x.sheep(0, 5, 99, 0);
        x.snow(5, 34);
        dueAll("wrong", BEYOND, x.add(1, 0), x.add(-1, 0), x.add(0, -1), x.add(0, 21));
        due("behind none", x.add(0, 0), NONE);
        due("two", x.add(0, 1), 6);
        due("one, though its set is greater", x.add(0, 2), 8);
        due("of several the least", x.add(0, 3), 2);
        x.change(0, 2, 2);
        due("besides those who are in it", x.add(0, 1), 4);
        due("none needed", x.add(0, 20), 0);
        due("mark stays", x.ofSheep(0, 4), 2);
        x.change(0, 3, 1);
        due("found", x.add(0, 0), 0);
        x.become(0, 60);
        x.change(0, 3, 0);
        x.change(0, 2, 2);
        x.snow(5, 15);
        due("a pot that is heard when another misses it, too", x.add(0, 1), 1);
        x.change(0, 1, 0);
        due("lost", x.add(0, 20), NONE);
        RaddleMarks y = new RaddleMarks();
        for (int i = 0; i < 6; i++) {
            y.seeker(5, 10);
        }
        y.sheep(0, 5, 99, 0);
        y.snow(5, 64);
        due("all", y.add(0, 1), 63);
        y.snow(5, 65);
        due("not by all", y.add(0, 1), NONE);
    }

    private static void start() {
        promise = 21;
        RaddleMarks x = new RaddleMarks();
        x.seeker(0, 50);
        x.sheep(0, 4, 99, 1);
        x.sheep(0, 7, 99, 1);
        x.sheep(0, 9, 99, 0);
        dueAll("wrong", BEYOND, x.start(1, 0, 0), x.start(-1, 0, 0), x.start(0, -1, 0), x.start(0, 21, 0), x.start(0, 0, 2),
            x.start(0, 0, -1));
        due("behind none: the least", x.start(0, 0, 0), 0);
        due("behind none: how many", x.start(0, 0, 1), 0);
        due("one", x.start(0, 1, 0), 4);
        due("one", x.start(0, 1, 1), 1);
        due("of several the least", x.start(0, 2, 0), 3);
        due("two", x.start(0, 5, 0), 4);
        due("two", x.start(0, 5, 1), 2);
        due("twenty", x.start(0, 20, 0), 0);
        x.change(2, 3, 1);
        due("the found count", x.start(0, 5, 1), 3);
        due("only thought", x.ofSeeker(0, 0), 0);
    }

    private static void missed() {
        promise = 22;
        RaddleMarks x = new RaddleMarks();
        due("no seekers", x.missed(0, 0), NONE);
        dueAll("wrong, ahead of none", BEYOND, x.missed(-1, 0), x.missed(61, 0), x.missed(0, 2), x.missed(0, -1));
        x.seeker(1, 50);
        x.seeker(5, 50);
        x.seeker(8, 50);
        x.sheep(0, 1, 99, 1);
        x.sheep(0, 5, 99, 2);
        x.sheep(0, 6, 99, 2);
        due("behind none: the least", x.missed(0, 0), 0);
        due("behind none: how many", x.missed(0, 1), 0);
        due("of several the least", x.missed(1, 0), 0);
        due("one", x.missed(1, 1), 1);
        due("missed most", x.missed(3, 0), 1);
        due("how many are found without", x.missed(3, 1), 1);
        due("sixty", x.missed(60, 0), 1);
        due("marks stay", x.ofSheep(1, 4), 2);
        RaddleMarks y = new RaddleMarks();
        y.seeker(4, 0);
        y.seeker(0, 0);
        y.sheep(60, 4, 99, 3);
        due("a pot is not heard by one alone", y.missed(1, 1), 0);
        due("of several the least", y.missed(1, 0), 0);
        for (int i = 1; i < 7; i++) {
            y.sheep(0, 4, 99, 0);
        }
        for (int i = 0; i < 7; i++) {
            y.change(i, 3, 1);
        }
        due("all are found without any", y.missed(60, 1), 7);
    }

    private static void nobody() {
        promise = 23;
        RaddleMarks x = new RaddleMarks();
        due("no sheep", x.nobody(), 0);
        x.seeker(4, 0);
        x.seeker(6, 0);
        x.sheep(0, 5, 9, 3);
        x.sheep(0, 6, 9, 1);
        x.sheep(0, 7, 9, 0);
        x.sheep(0, 7, 0, 0);
        x.sheep(0, 7, 9, 0);
        x.change(4, 3, 1);
        due("marked, but another is nearer", x.nobody(), 6);
        x.change(1, 2, 2);
        due("each has one", x.nobody(), 4);
        read(x, 1, "d");
        due("by the text", x.nobody(), 6);
        read(x, 1, "0");
        due("all", x.nobody(), 7);
        x.change(0, 3, 1);
        due("not the found", x.nobody(), 6);
    }

    private static void lies() {
        promise = 24;
        RaddleMarks x = new RaddleMarks();
        x.seeker(4, 3);
        x.sheep(0, 0, 50, 1);
        x.snow(4, 600);
        dueAll("wrong", BEYOND, x.lies(-1, 0, 0), x.lies(4, 0, 0), x.lies(0, 1, 0), x.lies(0, -1, 0), x.lies(0, 0, 2),
            x.lies(0, 0, -1));
        due("missing", x.lies(0, 0, 0), NONE);
        tellAll(x, 0, 16, 1, 1, 1, 1, 598, 1, 1, 1, 1);
        due("nine", x.lies(0, 0, 0), NONE);
        tellAll(x, 0, 16, 1, 1, 1, 1, 598, 1, 1, 1, 1, 1, 1);
        due("eleven", x.lies(0, 0, 0), NONE);
        tellAll(x, 0, 16, 1, 1, 1, 1, 598, 1, 1, 1, 1, 1);
        due("where it is dug", x.lies(0, 0, 0), 16);
        due("how many", x.lies(0, 0, 1), 1);
        x.put(0, 4, 601);
        due("elsewhere", x.lies(0, 0, 0), 1023 - 16);
        due("how many", x.lies(0, 0, 1), 9);
        x.put(0, 9, 2);
        due("nowhere", x.lies(0, 0, 0), 0);
        tellAll(x, 0, 16, 2, 1, 1, 1, 601, 1, 1, 1, 1, 1);
        due("nowhere, by cell 0", x.lies(0, 0, 0), 0);
        due("how many", x.lies(0, 0, 1), 0);
        x.snow(4, 99);
        tellAll(x, 1, 8, 1, 1, 1, 1, 97, 1, 1, 1, 1, 1);
        due("by 8 bits", x.lies(1, 0, 0), 16);
        tellAll(x, 1, 32, 1, 1, 1, 1, 97, 1, 1, 1, 1, 1);
        due("by 32 bits", x.lies(1, 0, 0), 16);
        due("only thought", x.ofSheep(0, 2), 0);
        due("only thought", x.count(2), 0);
    }

    private static void order() {
        promise = 25;
        RaddleMarks x = new RaddleMarks();
        x.seeker(7, 50);
        x.seeker(2, 50);
        x.sheep(0, 2, 50, 2);
        x.sheep(0, 7, 50, 1);
        x.sheep(0, 9, 50, 1);
        x.sheep(0, 9, 50, 0);
        x.sheep(0, 7, 50, 3);
        x.change(4, 3, 1);
        dueAll("wrong", BEYOND, x.order(-1), x.order(4));
        due("missing", x.order(0), NONE);
        tellAll(x, 0, 8, 1, 0, 2);
        due("the lesser seeker first", x.order(0), 3);
        tellAll(x, 0, 16, 1, 0, 2, 3);
        due("too many", x.order(0), 3);
        tellAll(x, 0, 32, 1, 2, 0);
        due("one is right", x.order(0), 1);
        tellAll(x, 0, 32, 0, 1, 2);
        due("none from the first on", x.order(0), 0);
        tellAll(x, 0, 32, 4, 1, 0, 2);
        due("not those that are found now", x.order(0), 0);
        tellAll(x, 0, 32, 1);
        due("too few", x.order(0), 1);
        x.sheet(0, 8, 0);
        due("of none", x.order(0), 0);
        x.change(0, 3, 1);
        tellAll(x, 0, 8, 1, 2);
        due("again", x.order(0), 2);
    }

    private static void strong() {
        promise = 26;
        RaddleMarks x = new RaddleMarks();
        x.seeker(3, 0);
        x.sheep(0, 3, 99, 1);
        x.snow(3, 30);
        dueAll("wrong", BEYOND, x.strong(1, 0, 0), x.strong(-1, 0, 0), x.strong(0, 1, 0), x.strong(0, -1, 0),
            x.strong(0, 0, -1), x.strong(0, 0, 21));
        due("behind none", x.strong(0, 0, 0), NONE);
        due("one hour", x.strong(0, 0, 1), 26);
        due("two hours", x.strong(0, 0, 2), 14);
        due("strength stays", x.ofSeeker(0, 1), 0);
        x.snow(3, 103);
        due("99", x.strong(0, 0, 1), 99);
        x.snow(3, 104);
        due("not by 99", x.strong(0, 0, 1), NONE);
        x.snow(3, 4);
        due("0", x.strong(0, 0, 1), 0);
        x.change(0, 3, 1);
        due("found", x.strong(0, 0, 0), 0);
    }

    private static void odds() {
        promise = 27;
        RaddleMarks x = new RaddleMarks();
        x.seeker(4, 50);
        x.sheep(0, 0, 99, 1);
        dueAll("wrong", BEYOND, x.odds(1, 0, 0), x.odds(-1, 0, 0), x.odds(0, -1, 0), x.odds(0, 61, 0), x.odds(0, 0, 2),
            x.odds(0, 0, -1));
        int[] above = {0, 1, 3, 1, 7, 9, 1};
        int[] below = {1, 10, 10, 2, 10, 10, 1};
        for (int n = 0; n < above.length; n++) {
            due("above, n " + n, x.odds(0, n, 0), above[n]);
            due("below, n " + n, x.odds(0, n, 1), below[n]);
        }
        due("sixty", x.odds(0, 60, 0), 1);
        due("cell stays", x.ofSheep(0, 2), 0);
        x.send(0, 0, 0);
        due("4 of 10", x.odds(0, 4, 0), 2);
        due("4 of 10", x.odds(0, 4, 1), 5);
        x.change(0, 3, 1);
        due("found", x.odds(0, 0, 0), 1);
        due("found", x.odds(0, 0, 1), 1);
    }

    private static void voices() {
        promise = 28;
        RaddleMarks x = new RaddleMarks();
        due("seed", x.seed(-1000000001), 1);
        due("seed", x.seed(MIN), -1000000001);
        due("z", x.count(9), MIN);
        promise = 29;
        for (int i = 0; i < 4; i++) {
            x.sheep(3, 0, 0, 0);
        }
        dueAll("wrong", BEYOND, x.voice(4, 0, 0), x.voice(-1, 0, 0), x.voice(0, 4, 0), x.voice(0, -1, 0));
        due("any number", x.voice(0, 0, -1000000001), -1000000001);
        due("which is no error", x.told(1), 4);
        due("goes round", x.voice(3, 0, MAX), MIN + 2);
        voice(x, 3, 0, 4, 7, 10);
        voice(x, 3, 1, 4, 14, 11, 10);
        voice(x, 3, 2, 4, 1, 12);
        voice(x, 3, 3, 4, 14 ^ 1, 13, 11, 10, 12);
        x.become(3, 13);
        voice(x, 3, 3, 4, 42 ^ 1, 13, 11, 20, 10, 12);
        x.become(3, 23);
        voice(x, 3, 1, 4, 16, 30, 11, 10, 12);
        voice(x, 3, 3, 4, 16 ^ 1, 13, 30, 11, 10, 12, 12);
        x.become(3, 33);
        voice(x, 3, 2, 4, -1, 40, 12);
        x.become(3, 43);
        voice(x, 3, 3, 4, (42 ^ 1) - 15, 50, 13, 11, 20, 10, 12, 20, 10);
        x.become(3, 53);
        voice(x, 3, 1, 4, 18, 60, 30, 11, 10, 12);
        voice(x, 3, 3, 4, 18 ^ 1, 13, 60, 30, 11, 10, 12, 12);
        x.become(3, 63);
        voice(x, 3, 2, 4, -1 ^ 3, 70, 40, 12);
        voice(x, 3, 3, 4, 14 - (14 ^ (-1 ^ 3)), 71, 11, 10, 13, 11, 10, 70, 40, 12);
        promise = 30;
        x.voice(9, 0, 0);
        due("an error leaves the trace", x.count(8), 9);
        dueAll("none such", NONE, x.trace(-1), x.trace(9), x.trace(40), x.trace(MAX), x.trace(MIN));
        x.voice(0, 0, 0);
        due("of the latest alone", x.count(8), 1);
        due("of the latest alone", x.trace(1), NONE);
    }

    private static void voice(RaddleMarks x, int sheep, int act, int with, int want, int... bodies) {
        promise = 29;
        due("voice", x.voice(sheep, act, with), want);
        promise = 30;
        due("bodies", x.count(8), bodies.length);
        for (int i = 0; i < bodies.length; i++) {
            due("body " + i, x.trace(i), bodies[i]);
        }
    }

    private static void sheets() {
        promise = 31;
        RaddleMarks x = new RaddleMarks();
        dueAll("wrong", BEYOND, x.sheet(-1, 8, 1), x.sheet(4, 8, 1), x.sheet(0, 7, 1), x.sheet(0, 64, 1), x.sheet(0, -8, 1),
            x.sheet(0, 8, 41), x.sheet(4, 8, -1), x.sheet(0, 9, -1), x.sheet(4, 0, 1), x.sheet(0, 32, MAX));
        dueAll("state", STATE, x.sheet(0, 8, -1), x.sheet(0, 16, MIN));
        due("still missing", x.judge(0), NONE);
        dueAll("right", 1, x.sheet(0, 8, 0), x.sheet(1, 16, 40), x.sheet(2, 32, 3), x.sheet(3, 0, -7), x.sheet(3, 0, 99));
        due("missing", x.put(3, 0, 0), NONE);
        due("of none", x.judge(0), -1);
        promise = 32;
        dueAll("no such sheet", BEYOND, x.put(-1, 0, 0), x.put(4, 0, 0));
        dueAll("no such number", BEYOND, x.put(0, 0, 0), x.put(1, 40, 0), x.put(1, -1, 0), x.put(2, 3, 0));
        due("missing, ahead of no such number", x.put(3, 99, 0), NONE);
        due("the last", x.put(1, 39, 5), 1);
        due("an error leaves the sheet", x.sheet(1, 16, -1), STATE);
        due("an error leaves the sheet", x.put(1, 39, 5), 1);
        x.sheet(1, 8, 3);
        x.put(1, 0, 256 + 7);
        x.put(1, 1, -256);
        x.put(1, 2, 127);
        due("lowest bits of 8", x.snows(1), 3);
        due("lowest bits of 8", x.ofCell(0, 0), 7);
        due("lowest bits of 8", x.ofCell(1, 0), 0);
        due("lowest bits of 8", x.ofCell(2, 0), 127);
        x.sheet(1, 16, 2);
        x.put(1, 0, 65536 + 700);
        x.put(1, 1, -65536 + 999);
        due("lowest bits of 16", x.snows(1), 2);
        due("lowest bits of 16", x.ofCell(0, 0), 700);
        due("lowest bits of 16", x.ofCell(1, 0), 999);
        x.sheet(1, 32, 2);
        x.put(1, 0, 999);
        x.put(1, 1, 65536 + 1);
        due("all bits of 32", x.snows(1), 1);
        x.sheet(1, 32, 2);
        x.snows(1);
        due("all 0 anew", x.ofCell(0, 0), 0);
        x.sheet(1, 8, 1);
        x.put(1, 0, 200);
        due("numbers of 8 bits are bytes, as Java has them", x.snows(1), 0);
    }

    private static void moving() {
        promise = 33;
        RaddleMarks x = new RaddleMarks();
        tellAll(x, 0, 8, 1, 2, 3, 4, 5);
        x.sheet(1, 8, 3);
        x.sheet(2, 16, 3);
        dueAll("no such sheet", BEYOND, x.move(-1, 0, 0, 0, 0), x.move(0, 0, 4, 0, 0), x.move(4, 0, 3, 0, 0));
        dueAll("missing", NONE, x.move(3, 0, 2, 0, 0), x.move(0, 0, 3, 0, 0), x.move(0, -1, 3, 0, 0));
        dueAll("unlike", KIND, x.move(0, 0, 2, 0, 0), x.move(2, 0, 0, -1, -1));
        dueAll("wrong", BEYOND, x.move(0, -1, 1, 0, 1), x.move(0, 0, 1, -1, 1), x.move(0, 0, 1, 0, -1),
            x.move(0, 5, 1, 0, 1), x.move(0, 0, 1, 3, 1), x.move(0, 0, 1, 0, 4), x.move(0, 3, 1, 0, 3),
            x.move(0, 0, 1, 1, 3), x.move(0, 6, 1, 0, 0), x.move(0, 0, 1, 4, 0), x.move(0, MAX, 1, 0, 1),
            x.move(0, 1, 1, 0, MAX), x.move(0, 0, 1, MAX, MAX), x.move(0, MIN, 1, 0, MIN));
        due("none, at the ends", x.move(0, 5, 1, 3, 0), 0);
        due("three", x.move(0, 2, 1, 0, 3), 3);
        x.snows(1);
        dueSnow(x, 3, 4, 5, 0, 0);
        due("to the right in one sheet", x.move(0, 0, 0, 1, 4), 4);
        x.snows(0);
        dueSnow(x, 1, 1, 2, 3, 4);
        due("to the left in one sheet", x.move(0, 2, 0, 0, 3), 3);
        x.snows(0);
        dueSnow(x, 2, 3, 4, 3, 4);
    }

    private static void dueSnow(RaddleMarks x, int... snow) {
        for (int i = 0; i < snow.length; i++) {
            due("snow " + i, x.ofCell(i, 0), snow[i]);
        }
    }

    private static void snowsAndJudge() {
        promise = 34;
        RaddleMarks x = new RaddleMarks();
        dueAll("wrong", BEYOND, x.snows(-1), x.snows(4));
        due("missing", x.snows(0), NONE);
        for (int i = 0; i < 10; i++) {
            x.snow(i, 50);
        }
        tellAll(x, 0, 32, 0, 999, 1000, 4);
        due("up to one above", x.snows(0), 2);
        dueSnow(x, 0, 999, 50, 50);
        x.put(0, 2, -1);
        due("up to one below", x.snows(0), 2);
        x.put(0, 0, -1);
        due("not the first", x.snows(0), 0);
        dueSnow(x, 0, 999, 50, 50);
        tellAll(x, 0, 16, 1, 2, 3, 4, 5, 6, 7, 8, 9, 10, 11, 12);
        due("no more than there are cells", x.snows(0), 10);
        dueSnow(x, 1, 2, 3, 4, 5, 6, 7, 8, 9, 10);
        x.sheet(0, 8, 0);
        due("of none", x.snows(0), 0);
        promise = 35;
        dueAll("wrong", BEYOND, x.judge(-1), x.judge(4));
        due("missing", x.judge(3), NONE);
        due("none", x.judge(0), -1);
        x.sheep(0, 0, 40, 0);
        due("one lacks", x.judge(0), 0);
        x.sheep(0, 0, 99, 0);
        tellAll(x, 0, 8, 40, 99);
        due("all", x.judge(0), -1);
        tellAll(x, 0, 8, 40, 98);
        due("the second isn't", x.judge(0), 1);
        tellAll(x, 0, 8, 40);
        due("one lacks", x.judge(0), 1);
        tellAll(x, 0, 8, 40, 99, 0);
        due("one too many", x.judge(0), 2);
        tellAll(x, 0, 32, 296, 99);
        due("all the bits", x.judge(0), 0);
    }

    private static void images() {
        promise = 36;
        RaddleMarks x = new RaddleMarks();
        x.seeker(1, 2);
        x.sheep(34, 5, 60, 1);
        x.snow(7, 70);
        read(x, 0, "2");
        read(x, 1, "m");
        x.feed('c', 1);
        x.tell(9);
        x.seed(77);
        x.hours(1);
        tellAll(x, 0, 8, 1);
        due("first", x.image(), 1);
        x.seeker(3, 4);
        x.sheep(12, 1, 2, 3);
        x.snow(7, 0);
        x.change(0, 3, 1);
        x.change(0, 1, 3);
        x.become(0, 66);
        x.send(0, 1, 50);
        x.send(0, 0, 9);
        read(x, 1, "(");
        read(x, 0, "3");
        read(x, 1, "d");
        x.feed('d', 1);
        x.feed('d', 1);
        x.tell(8);
        x.loose(3);
        x.sheet(0, 0, 0);
        x.voice(0, 2, 1);
        x.voice(44, 0, 0);
        promise = 37;
        due("hour", x.restore(), 1);
        due("hour", x.count(2), 1);
        due("seekers", x.count(0), 1);
        due("sheep", x.count(1), 1);
        due("snow", x.ofCell(7, 0), 72);
        due("found", x.ofSheep(0, 5), 0);
        due("warmth", x.ofSheep(0, 3), 57);
        due("kind", x.ofSheep(0, 0), 3);
        due("m", x.ofSheep(0, 1), 4);
        due("strength", x.ofSeeker(0, 1), 2);
        due("at", x.ofSeeker(0, 0), 2);
        due("falls", x.law(0, 0, 0, 0), 2);
        due("goes out", x.law(1, 0, 0, 1), 1);
        due("goes out", x.law(1, 1, 0, 0), 0);
        due("the tape", x.count(6), 1);
        due("numbers that wait", x.count(7), 1);
        due("z", x.count(9), 77);
        due("not the sheets", x.judge(0), NONE);
        due("not the trace", x.count(8), 3);
        due("not what is told", x.told(1), 1);
        due("not what is told", x.told(2), 1);
        x.hours(5);
        due("the image stays", x.restore(), 1);
        promise = 36;
        x.hours(4);
        due("how often", x.image(), 2);
        x.hours(4);
        due("in place of one ahead", x.restore(), 5);
        due("how often", x.image(), 3);
        promise = 37;
        due("none", new RaddleMarks().restore(), NONE);
        RaddleMarks y = new RaddleMarks();
        y.image();
        y.seeker(1, 2);
        y.sheep(0, 1, 1, 1);
        y.change(0, 3, 1);
        read(y, 0, "5");
        y.restore();
        due("no text as at first", y.law(0, 0, 0, 0), 1);
        due("no seeker as at first", y.sheep(0, 0, 0, 1), BEYOND);
        due("a new sheep", y.sheep(0, 0, 0, 0), 0);
        due("is not found", y.ofSheep(0, 5), 0);
    }

    private static void telling() {
        promise = 38;
        RaddleMarks x = new RaddleMarks();
        for (int i = 1; i <= 20; i++) {
            due("tell", x.tell(0), i);
        }
        due("full", x.tell(0), FULL);
        due("twenty wait", x.count(7), 20);
        promise = 39;
        due("all are so", x.check(), 0);
        due("none wait", x.count(7), 0);
        due("none: so", x.check(), 0);
        x.seeker(4, 50);
        x.sheep(0, 4, 99, 1);
        x.sheep(0, 5, 99, 1);
        tell(x, 1, 1, 2, 2);
        due("so", x.check(), 0);
        tell(x, 0, 1, 2);
        due("the first isn't", x.check(), 1);
        due("none wait", x.count(7), 0);
        tell(x, 1, 1, 2, 1, 0);
        due("the fourth isn't", x.check(), 4);
        tell(x, 1, -1);
        due("the second isn't", x.check(), 2);
        due("only thought", x.count(2), 0);
        due("only thought", x.count(4), 0);
        x.change(1, 3, 1);
        tell(x, 2);
        due("the found count", x.check(), 0);
    }

    private static void tell(RaddleMarks x, int... numbers) {
        for (int v : numbers) {
            x.tell(v);
        }
    }

    private static void counts() {
        promise = 40;
        RaddleMarks x = new RaddleMarks();
        x.seeker(0, 0);
        x.seeker(0, 0);
        x.sheep(0, 0, 0, 0);
        x.sheep(0, 0, 0, 0);
        x.sheep(0, 0, 1, 0);
        x.change(1, 3, 1);
        x.snow(0, 999);
        x.snow(9, 999);
        x.feed(0, 5);
        x.tell(4);
        x.voice(0, 3, 0);
        int[] want = {2, 3, 0, 1998, 2, 1, 5, 1, 4, 1};
        for (int what = 0; what < want.length; what++) {
            due("count " + what, x.count(what), want[what]);
        }
        x.hours(2);
        due("hour", x.count(2), 2);
        due("lost", x.count(5), 5);
        dueAll("wrong", BEYOND, x.count(-1), x.count(10), x.count(MIN), x.count(MAX));
        x.seed(-1000000001);
        due("any number", x.count(9), -1000000001);
        due("which is no error", x.told(1), 4);
    }

    private static void told() {
        promise = 41;
        RaddleMarks x = new RaddleMarks();
        x.snow(10, 0);
        x.snow(10, 0);
        x.restore();
        x.sheet(0, 8, -1);
        x.sheet(0, 8, -1);
        x.sheet(0, 8, -1);
        x.feed(0, 8);
        for (int i = 0; i < 9; i++) {
            x.feed(0, 8);
        }
        x.sheep(0, 0, 0, 0);
        x.as(0, 1);
        due("beyond", x.told(1), 2);
        due("none", x.told(2), 1);
        due("state", x.told(3), 3);
        due("full", x.told(4), 4);
        due("kind", x.told(5), 1);
        dueAll("another", BEYOND, x.told(0), x.told(6), x.told(-1), x.told(MIN), x.told(MAX));
        due("counted, too", x.told(1), 7);
        due("a fault is no error", x.text(0), -10);
        due("a fault is no error", x.told(1), 7);
    }
}
