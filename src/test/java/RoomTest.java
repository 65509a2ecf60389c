import java.lang.management.ManagementFactory;

/** All calls of a run live in one room, so no call may make objects: rows are made once, in the constructor. */
public final class RoomTest {
    private static final int CALLS = 512;
    private static final long ROOM_OF_AN_OBJECT = 20_000;

    private static final com.sun.management.ThreadMXBean THREADS =
        (com.sun.management.ThreadMXBean) ManagementFactory.getThreadMXBean();

    private static long made() {
        return THREADS.getThreadAllocatedBytes(Thread.currentThread().getId());
    }

    public static void main(String[] args) {
        warmUp();
        long ahead = made();
        RaddleMarks x = new RaddleMarks();
        long ofAnObject = made() - ahead;
        prepare(x);
        ahead = made();
        long sum = 0;
        for (int i = 0; i < CALLS; i++) {
            sum += callAll(x, i);
        }
        long ofCalls = made() - ahead;
        System.out.println("room: an object has " + ofAnObject + " bytes, calls made " + ofCalls + " (" + sum + ")");
        if (ofAnObject > ROOM_OF_AN_OBJECT || ofCalls != 0) {
            System.exit(1);
        }
    }

    /** What the machine makes when it first meets classes and calls is not the program's. */
    private static void warmUp() {
        RaddleMarks x = new RaddleMarks();
        prepare(x);
        callAll(x, 0);
        made();
    }

    private static void prepare(RaddleMarks x) {
        for (int i = 0; i < 6; i++) {
            x.seeker(i, 3 + i);
        }
        for (int i = 0; i < 7; i++) {
            x.sheep(10 * i + 3, 9 - i, 99, 1 << i & 63);
        }
        feedText(x, 0, "c*3+s%7-h/2+(c>4)*2+!(s<9)+(c|s)&1+h*2+c+s+h+99");
        feedText(x, 1, "d*3+w%7-m/2+(d>4)*2+!(w<9)+(d|w)&1+m*2+d+w+m+99");
        x.image();
    }

    private static void feedText(RaddleMarks x, int use, String text) {
        for (int i = 0; i < text.length(); i++) {
            x.feed(text.charAt(i), 1);
        }
        if (x.text(use) != 1) {
            System.exit(1);
        }
    }

    private static long callAll(RaddleMarks x, int i) {
        int seeker = i % 6;
        int sheep = i % 7;
        long sum = x.strong(seeker, sheep, 20) + x.odds(sheep, 60, 0) + x.add(sheep, 20) + x.start(seeker, 20, 0);
        sum += x.missed(60, 0) + x.saved() + x.when(sheep) + x.then(60, sheep, 0) + x.nobody();
        sum += x.sheet(i % 4, 8 << i % 3, 10) + x.put(i % 4, i % 10, i) + x.lies(i % 4, sheep, 0) + x.order(i % 4);
        sum += x.move(0, 0, i % 4, 1, 2) + x.snows(i % 4) + x.judge(i % 4) + x.hours(1 + i % 60) + x.loose(1 + i % 40);
        sum += x.feed(0x2b63, 1 + i % 2) + x.text(i % 2) + x.law(0, 1, 2, 3) + x.voice(sheep, 3, i) + x.trace(0);
        sum += x.tell(0) + x.tell(1) + x.check() + x.image() + x.restore() + x.count(3) + x.told(1) + x.snow(i % 10, 500);
        return sum + x.become(sheep, i % 70) + x.as(sheep, 1) + x.change(sheep, 1, 99) + x.ofCell(1, 2) + x.ofSheep(1, 6);
    }
}
