import java.lang.reflect.Method;
import java.util.ArrayDeque;
import java.util.ArrayList;
import java.util.Arrays;
import java.util.Collections;
import java.util.Deque;
import java.util.HashMap;
import java.util.List;
import java.util.Map;
import java.util.Random;

/**
 * Long runs of drawn calls, each put to RaddleMarks and to a second program that was written
 * from the document alone, in another manner: it copies its whole state for every thought, works
 * texts out from their bytes, and finds faults by a machine with a stack.
 */
public final class ModelTest {
    private static final int RUNS = 400;
    private static final int CALLS = 512;

    public static void main(String[] args) throws Exception {
        Map<String, Method> face = methodsOf(RaddleMarks.class);
        Map<String, Method> model = methodsOf(Model.class);
        Map<String, int[]> tally = new HashMap<>();
        int wrong = 0;
        for (int run = 0; run < RUNS && wrong == 0; run++) {
            Caller caller = new Caller(run);
            RaddleMarks real = new RaddleMarks();
            Model due = new Model();
            List<String> calls = new ArrayList<>();
            for (int i = 0; i < CALLS; i++) {
                caller.next(due);
                calls.add(caller.name + Arrays.toString(caller.args));
                Object got = face.get(caller.name).invoke(real, caller.args);
                Object want = model.get(caller.name).invoke(due, caller.args);
                int[] seen = tally.computeIfAbsent(caller.name, k -> new int[2]);
                seen[(int) want < -1000000000 && (int) want >= -1000000005 ? 1 : 0]++;
                if (!got.equals(want)) {
                    wrong++;
                    System.out.println("run " + run + ", call " + i + ": answered " + got + ", due is " + want);
                    calls.forEach(c -> System.out.println("  " + c));
                    break;
                }
            }
        }
        wrong += askAllWereDrawn(face, tally);
        System.out.println(wrong == 0 ? "model: all answers are as due" : "model: wrong");
        if (wrong != 0) {
            System.exit(1);
        }
    }

    /** A call that was never drawn, or only with an ERROR, would be no test of its promise. */
    private static int askAllWereDrawn(Map<String, Method> face, Map<String, int[]> tally) {
        int wrong = 0;
        for (String name : face.keySet()) {
            int[] seen = tally.getOrDefault(name, new int[2]);
            if (seen[0] < 100) {
                wrong++;
                System.out.println(name + " answered only " + seen[0] + " times without an ERROR");
            }
        }
        return wrong;
    }

    private static Map<String, Method> methodsOf(Class<?> c) {
        Map<String, Method> all = new HashMap<>();
        for (Method m : c.getDeclaredMethods()) {
            if (java.lang.reflect.Modifier.isPublic(m.getModifiers())) {
                all.put(m.getName(), m);
            }
        }
        return all;
    }

    /** Draws calls, most of them such as are meant, some with arguments at the edges and beyond. */
    private static final class Caller {
        private static final String[] OFTEN = {
            "snow", "ofCell", "ofSeeker", "send", "ofSheep", "change", "become", "as", "law", "hours", "loose",
            "then", "when", "saved", "add", "start", "missed", "nobody", "lies", "order", "strong", "odds",
            "seed", "voice", "trace", "sheet", "put", "move", "snows", "judge", "image", "restore", "tell",
            "check", "count", "told", "text", "feed", "seeker", "sheep"};
        private static final int[] ODD = {-1, 0, 1, 2, 7, 9, 10, 20, 21, 40, 41, 60, 61, 99, 100, 127, 128, 255,
            256, 999, 1000, 9999, 65535, -2147483648, 2147483647, -1000000001};

        private final Random random;
        private final Deque<Object[]> planned = new ArrayDeque<>();
        private final boolean late;
        String name;
        Object[] args;

        Caller(int run) {
            random = new Random(run);
            late = run % 10 == 0;
            for (int i = 0; i < 3; i++) {
                plan("seeker", within(10), within(30));
            }
            for (int i = 0; i < 5; i++) {
                plan("sheep", within(70), within(10), 20 + within(80), within(8));
            }
        }

        void next(Model due) {
            if (planned.isEmpty()) {
                draw(due);
            }
            Object[] call = planned.removeFirst();
            name = (String) call[0];
            args = Arrays.copyOfRange(call, 1, call.length);
        }

        private void plan(Object... call) {
            planned.add(call);
        }

        private int within(int n) {
            return random.nextInt(n);
        }

        private int near(int n) {
            return within(12) == 0 ? ODD[within(ODD.length)] : within(n);
        }

        private void draw(Model due) {
            int which = within(100);
            if (which < 6) {
                planText();
            } else if (which < 8) {
                planForecast(due);
            } else if (which < 9) {
                planOrder(due);
            } else if (which < 10) {
                planChecks(due);
            } else if (which < 11) {
                planWarmth(due);
            } else if (which < 12 && late) {
                for (int i = 0; i < 40; i++) {
                    plan("hours", 60);
                }
            } else {
                planOne(OFTEN[within(OFTEN.length)], due);
            }
        }

        private void planOne(String call, Model due) {
            int sheep = near(Math.max(1, due.s.sheep.size()));
            int seeker = near(Math.max(1, due.s.seekers.size()));
            int mark = near(1 << due.s.seekers.size());
            switch (call) {
                case "snow": plan(call, near(10), near(random.nextBoolean() ? 20 : 1000)); break;
                case "ofCell": plan(call, near(10), near(3)); break;
                case "seeker": plan(call, near(10), near(30)); break;
                case "ofSeeker": plan(call, seeker, near(3)); break;
                case "send": plan(call, seeker, near(2), near(10)); break;
                case "sheep": plan(call, near(70), near(10), near(100), mark); break;
                case "ofSheep": plan(call, sheep, near(8)); break;
                case "change": planChange(sheep, mark); break;
                case "become": plan(call, sheep, near(70)); break;
                case "as": plan(call, sheep, near(7)); break;
                case "law": plan(call, near(2), near(30), near(1000), near(24)); break;
                case "hours": plan(call, near(5)); break;
                case "loose": plan(call, near(5)); break;
                case "then": plan(call, near(30), sheep, near(3)); break;
                case "when": plan(call, sheep); break;
                case "add": plan(call, sheep, near(21)); break;
                case "start": plan(call, seeker, near(21), near(2)); break;
                case "missed": plan(call, near(61), near(2)); break;
                case "lies": plan(call, near(4), sheep, near(2)); break;
                case "order": plan(call, near(4)); break;
                case "strong": plan(call, seeker, sheep, near(21)); break;
                case "odds": plan(call, sheep, near(61), near(2)); break;
                case "seed": plan(call, random.nextInt()); break;
                case "voice": plan(call, sheep, near(4), random.nextBoolean() ? near(100) : random.nextInt()); break;
                case "trace": plan(call, near(10)); break;
                case "sheet": plan(call, near(4), new int[] {0, 8, 16, 32, 32, 16, 8, 7}[within(8)], near(12)); break;
                case "put": plan(call, near(4), near(10), near(300)); break;
                case "move": plan(call, near(4), near(8), near(4), near(8), near(4)); break;
                case "snows": plan(call, near(4)); break;
                case "judge": plan(call, near(4)); break;
                case "tell": plan(call, near(5)); break;
                case "count": plan(call, near(10)); break;
                case "told": plan(call, near(7)); break;
                case "text": plan(call, near(2)); break;
                case "feed": plan(call, random.nextLong(), near(4)); break;
                default: plan(call); break;
            }
        }

        private void planChange(int sheep, int mark) {
            int what = near(4);
            int v = what == 2 ? mark : what == 1 ? near(100) : what == 0 ? near(10) : near(2);
            plan("change", sheep, what, v);
        }

        private void planText() {
            int use = within(2);
            StringBuilder text = new StringBuilder();
            write(text, use == 0 ? "csh" : "dwm", 0);
            if (within(4) == 0 && text.length() > 0) {
                text.setCharAt(within(text.length()), "csh()!|&<=>+-*/%019dwm x".charAt(within(24)));
            }
            if (within(6) == 0) {
                text.setLength(within(text.length() + 1));
            }
            if (text.length() > 50) {
                text.setLength(50);
            }
            for (int i = 0; i < text.length(); i += 8) {
                long word = 0;
                int n = Math.min(8, text.length() - i);
                for (int j = 0; j < n; j++) {
                    word |= (long) text.charAt(i + j) << (8 * j);
                }
                plan("feed", word, n);
            }
            plan("text", use);
            for (int i = 0; i < 3; i++) {
                plan("law", use, near(30), near(100), near(24));
            }
        }

        private void write(StringBuilder text, String names, int depth) {
            int parts = 1 + within(depth == 0 ? 4 : 3);
            for (int i = 0; i < parts; i++) {
                if (i > 0) {
                    text.append("|&<=>+-*/%+-*/%".charAt(within(15)));
                }
                int which = within(10);
                if (which < 4) {
                    text.append(names.charAt(within(3)));
                } else if (which < 7 || depth > 6) {
                    text.append(within(within(2) == 0 ? 10 : 12000));
                } else if (which < 8) {
                    text.append("!!!!!!!!", 0, 1 + within(within(3) == 0 ? 7 : 2)).append(names.charAt(within(3)));
                } else {
                    text.append("!(", within(2), 2);
                    write(text, names, depth + 1);
                    text.append(')');
                }
            }
        }

        /** A sheet that tells what snow there will be if a sheep lies in some cell. */
        private void planForecast(Model due) {
            if (due.s.sheep.isEmpty()) {
                planOne("sheep", due);
                return;
            }
            int sheet = within(4);
            int sheep = within(due.s.sheep.size());
            Model.Now then = due.s.copy();
            then.sheep.get(sheep)[Model.CELL] = within(10);
            then.hour(new ArrayList<>());
            plan("sheet", sheet, new int[] {8, 16, 32}[within(3)], 10);
            for (int i = 0; i < 10; i++) {
                plan("put", sheet, i, then.snow[i]);
            }
            plan("lies", sheet, sheep, 0);
            plan("lies", sheet, sheep, 1);
            plan("snows", sheet);
        }

        private void planOrder(Model due) {
            List<Integer> finds = due.findsIn60();
            int sheet = within(4);
            int n = finds.size() + within(2);
            plan("sheet", sheet, new int[] {8, 16, 32}[within(3)], n);
            for (int i = 0; i < n; i++) {
                plan("put", sheet, i, i < finds.size() && within(10) > 0 ? finds.get(i) : within(7));
            }
            plan("order", sheet);
        }

        private void planChecks(Model due) {
            Model.Now then = due.s.copy();
            int n = 1 + within(20);
            for (int i = 0; i < n; i++) {
                then.hour(new ArrayList<>());
                plan("tell", Integer.bitCount(then.found()) + (within(20) == 0 ? 1 : 0));
            }
            plan("count", 7);
            plan("check");
        }

        private void planWarmth(Model due) {
            int sheet = within(4);
            int n = due.s.sheep.size() + (within(4) == 0 ? 1 : 0);
            plan("sheet", sheet, new int[] {8, 16, 32}[within(3)], n);
            for (int i = 0; i < n; i++) {
                int warmth = i < due.s.sheep.size() ? due.s.sheep.get(i)[Model.WARMTH] : 0;
                plan("put", sheet, i, within(10) == 0 ? within(100) : warmth);
            }
            plan("judge", sheet);
        }
    }

    /** The second program. */
    static final class Model {
        static final int KIND = 0;
        static final int M = 1;
        static final int CELL = 2;
        static final int WARMTH = 3;
        static final int MARK = 4;
        static final int FOUND = 5;
        private static final String[] KIND_NAMES = {"SHEEP", "TUP", "EWE", "LAMB", "BELL", "TOPP", "POT"};
        private static final Map<String, String> ABOVE = Map.of(
            "TUP", "SHEEP", "EWE", "SHEEP", "LAMB", "SHEEP", "BELL", "TUP", "TOPP", "EWE", "POT", "LAMB");

        static final class Now {
            int[] snow = new int[10];
            int hour;
            List<int[]> seekers = new ArrayList<>();
            List<int[]> sheep = new ArrayList<>();
            String[] texts = new String[2];
            String tape = "";
            int z = 1;
            List<Integer> waiting = new ArrayList<>();

            Now copy() {
                Now c = new Now();
                c.snow = snow.clone();
                c.hour = hour;
                seekers.forEach(x -> c.seekers.add(x.clone()));
                sheep.forEach(x -> c.sheep.add(x.clone()));
                c.texts = texts.clone();
                c.tape = tape;
                c.z = z;
                c.waiting = new ArrayList<>(waiting);
                return c;
            }

            int law(int use, int a, int b, int c) {
                if (texts[use] == null) {
                    return 1;
                }
                int v = new Sum(texts[use], use == 0 ? "csh" : "dwm", a, b, c).all();
                return v < 0 ? 0 : Math.min(v, use == 0 ? 99 : 1);
            }

            int heard(int[] x) {
                int v = 5;
                String kind = KIND_NAMES[x[KIND]];
                if (kind.equals("TUP") || kind.equals("BELL")) {
                    v = v + x[M];
                }
                if (kind.equals("BELL")) {
                    v = v + 50;
                }
                if (kind.equals("EWE") || kind.equals("TOPP")) {
                    v = v * 2;
                }
                if (kind.equals("LAMB") || kind.equals("POT")) {
                    v = v - x[M] / 2;
                }
                if (kind.equals("TOPP") && hour % 2 == 1) {
                    v = 0;
                }
                if (kind.equals("POT") && List.of(1, 2, 4, 8, 16, 32).contains(x[MARK])) {
                    v = 0;
                }
                return v;
            }

            int cold(int[] x) {
                switch (KIND_NAMES[x[KIND]]) {
                    case "TUP": case "BELL": return 1 - hour % 2;
                    case "EWE": case "TOPP": return x[M] % 2 == 1 ? 2 : 1;
                    case "LAMB": case "POT": return 3;
                    default: return 1;
                }
            }

            int out(int seeker) {
                int best = Integer.MAX_VALUE;
                for (int i = 0; i < sheep.size(); i++) {
                    int[] x = sheep.get(i);
                    int d = Math.abs(x[CELL] - seekers.get(seeker)[0]);
                    if (x[FOUND] == 0 && x[WARMTH] != 0 && (x[MARK] & 1 << seeker) != 0
                            && law(1, d, x[WARMTH], x[M]) != 0) {
                        best = Math.min(best, d * 100 + i);
                    }
                }
                return best == Integer.MAX_VALUE ? -1 : best % 100;
            }

            void hour(List<Integer> finds) {
                for (int c = 0; c < 10; c++) {
                    snow[c] = Math.min(999, snow[c] + law(0, c, snow[c], hour % 24));
                }
                for (int k = 0; k < seekers.size(); k++) {
                    int o = out(k);
                    if (o < 0) {
                        continue;
                    }
                    int[] me = seekers.get(k);
                    int[] x = sheep.get(o);
                    if (me[0] < x[CELL]) {
                        me[0]++;
                    } else if (me[0] > x[CELL]) {
                        me[0]--;
                    } else {
                        snow[me[0]] = Math.max(0, snow[me[0]] - me[1]);
                        if (snow[me[0]] <= heard(x)) {
                            x[FOUND] = 1;
                            finds.add(o);
                        }
                    }
                }
                for (int[] x : sheep) {
                    if (x[FOUND] == 0 && snow[x[CELL]] != 0) {
                        x[WARMTH] = Math.max(0, x[WARMTH] - cold(x));
                    }
                }
                hour++;
            }

            int found() {
                int set = 0;
                for (int i = 0; i < sheep.size(); i++) {
                    set += sheep.get(i)[FOUND] << i;
                }
                return set;
            }

            Now behind(int n) {
                Now c = copy();
                for (int i = 0; i < n; i++) {
                    c.hour(new ArrayList<>());
                }
                return c;
            }
        }

        /** Works a right text out, straight from its signs. */
        private static final class Sum {
            private final String text;
            private final String names;
            private final int[] values;
            private int at;

            Sum(String text, String names, int a, int b, int c) {
                this.text = text;
                this.names = names;
                values = new int[] {a, b, c};
            }

            private boolean sees(String signs) {
                return at < text.length() && signs.indexOf(text.charAt(at)) >= 0;
            }

            int all() {
                int v = and();
                while (sees("|")) {
                    at++;
                    int w = and();
                    v = (v != 0) | (w != 0) ? 1 : 0;
                }
                return v;
            }

            private int and() {
                int v = compared();
                while (sees("&")) {
                    at++;
                    int w = compared();
                    v = (v != 0) & (w != 0) ? 1 : 0;
                }
                return v;
            }

            private int compared() {
                int v = sum();
                if (sees("<=>")) {
                    char sign = text.charAt(at++);
                    int w = sum();
                    int side = Integer.compare(v, w);
                    return sign == "<=>".charAt(side + 1) ? 1 : 0;
                }
                return v;
            }

            private int sum() {
                int v = product();
                while (sees("+-")) {
                    char sign = text.charAt(at++);
                    int w = product();
                    v = sign == '+' ? v + w : v - w;
                }
                return v;
            }

            private int product() {
                int v = one();
                while (sees("*/%")) {
                    char sign = text.charAt(at++);
                    int w = one();
                    if (sign == '*') {
                        v = v * w;
                    } else if (w == 0) {
                        v = 0;
                    } else {
                        v = sign == '/' ? (int) ((long) v / w) : (int) ((long) v % w);
                    }
                }
                return v;
            }

            private int one() {
                char sign = text.charAt(at++);
                if (sign == '!') {
                    return one() == 0 ? 1 : 0;
                }
                if (sign == '(') {
                    int v = all();
                    at++;
                    return v;
                }
                if (names.indexOf(sign) >= 0) {
                    return values[names.indexOf(sign)];
                }
                int from = at - 1;
                while (sees("0123456789")) {
                    at++;
                }
                return Integer.parseInt(text.substring(from, at));
            }
        }

        /** -1, or the place of the first sign with which no text goes on. */
        private static int fault(String text, String names) {
            StringBuilder open = new StringBuilder();
            List<Boolean> compared = new ArrayList<>(List.of(false));
            boolean wants = true;
            int digits = 0;
            for (int i = 0; i < text.length(); i++) {
                char sign = text.charAt(i);
                int level = compared.size() - 1;
                boolean digit = sign >= '0' && sign <= '9';
                if (!wants && digit && digits >= 1 && digits < 4) {
                    digits++;
                    continue;
                }
                if (wants && (sign == '!' || sign == '(')) {
                    if (open.length() == 5) {
                        return i;
                    }
                    open.append(sign);
                    if (sign == '(') {
                        compared.add(false);
                    }
                } else if (wants && (digit || names.indexOf(sign) >= 0)) {
                    wants = false;
                    digits = digit ? 1 : 0;
                    closeDenials(open);
                } else if (!wants && sign == ')' && open.length() > 0) {
                    open.setLength(open.length() - 1);
                    compared.remove(level);
                    closeDenials(open);
                    digits = 0;
                } else if (!wants && "|&<=>+-*/%".indexOf(sign) >= 0) {
                    if ("<=>".indexOf(sign) >= 0) {
                        if (compared.get(level)) {
                            return i;
                        }
                        compared.set(level, true);
                    }
                    if ("|&".indexOf(sign) >= 0) {
                        compared.set(level, false);
                    }
                    wants = true;
                } else {
                    return i;
                }
            }
            return wants || open.length() > 0 ? text.length() : -1;
        }

        private static void closeDenials(StringBuilder open) {
            while (open.length() > 0 && open.charAt(open.length() - 1) == '!') {
                open.setLength(open.length() - 1);
            }
        }

        Now s = new Now();
        private Now kept;
        private int images;
        private final int[][] sheets = new int[4][];
        private final int[] bits = new int[4];
        private List<Integer> trace = new ArrayList<>();
        private final Map<Integer, Integer> told = new HashMap<>();

        private int err(int k) {
            told.merge(k, 1, Integer::sum);
            return -1000000000 - k;
        }

        private static boolean in(int v, int from, int to) {
            return from <= v && v <= to;
        }

        private boolean noSheep(int i) {
            return !in(i, 0, s.sheep.size() - 1);
        }

        private boolean noSeeker(int i) {
            return !in(i, 0, s.seekers.size() - 1);
        }

        private boolean noMark(int mark) {
            return !in(mark, 0, (1 << s.seekers.size()) - 1);
        }

        public int snow(int cell, int v) {
            if (!in(cell, 0, 9) || !in(v, 0, 999)) {
                return err(1);
            }
            int was = s.snow[cell];
            s.snow[cell] = v;
            return was;
        }

        public int ofCell(int cell, int what) {
            if (!in(cell, 0, 9) || !in(what, 0, 2)) {
                return err(1);
            }
            int seekers = 0;
            int sheep = 0;
            for (int i = 0; i < s.seekers.size(); i++) {
                seekers += s.seekers.get(i)[0] == cell ? 1 << i : 0;
            }
            for (int i = 0; i < s.sheep.size(); i++) {
                sheep += s.sheep.get(i)[CELL] == cell ? 1 << i : 0;
            }
            return new int[] {s.snow[cell], seekers, sheep}[what];
        }

        public int seeker(int cell, int strength) {
            if (!in(cell, 0, 9) || !in(strength, 0, 99)) {
                return err(1);
            }
            if (s.seekers.size() == 6) {
                return err(4);
            }
            s.seekers.add(new int[] {cell, strength});
            return s.seekers.size() - 1;
        }

        public int ofSeeker(int seeker, int what) {
            if (noSeeker(seeker) || !in(what, 0, 2)) {
                return err(1);
            }
            return what == 2 ? s.out(seeker) : s.seekers.get(seeker)[what];
        }

        public int send(int seeker, int what, int v) {
            if (noSeeker(seeker) || !in(what, 0, 1) || !in(v, 0, what == 0 ? 9 : 99)) {
                return err(1);
            }
            int was = s.seekers.get(seeker)[what];
            s.seekers.get(seeker)[what] = v;
            return was;
        }

        public int sheep(int km, int cell, int warmth, int mark) {
            if (!in(km, 0, 69) || !in(cell, 0, 9) || !in(warmth, 0, 99) || noMark(mark)) {
                return err(1);
            }
            if (s.sheep.size() == 7) {
                return err(4);
            }
            s.sheep.add(new int[] {km / 10, km % 10, cell, warmth, mark, 0});
            return s.sheep.size() - 1;
        }

        public int ofSheep(int sheep, int what) {
            if (noSheep(sheep) || !in(what, 0, 7)) {
                return err(1);
            }
            int[] x = s.sheep.get(sheep);
            return what == 6 ? s.heard(x) : what == 7 ? s.cold(x) : x[what];
        }

        public int change(int sheep, int what, int v) {
            if (noSheep(sheep) || !in(what, 0, 3)) {
                return err(1);
            }
            if (what == 2 ? noMark(v) : !in(v, 0, new int[] {9, 99, 0, 1}[what])) {
                return err(1);
            }
            int was = s.sheep.get(sheep)[CELL + what];
            s.sheep.get(sheep)[CELL + what] = v;
            return was;
        }

        public int become(int sheep, int km) {
            if (noSheep(sheep) || !in(km, 0, 69)) {
                return err(1);
            }
            int was = s.sheep.get(sheep)[KIND];
            s.sheep.get(sheep)[KIND] = km / 10;
            s.sheep.get(sheep)[M] = km % 10;
            return was;
        }

        public int as(int sheep, int kind) {
            if (noSheep(sheep) || !in(kind, 0, 6)) {
                return err(1);
            }
            String name = KIND_NAMES[s.sheep.get(sheep)[KIND]];
            while (name != null && !name.equals(KIND_NAMES[kind])) {
                name = ABOVE.get(name);
            }
            return name == null ? err(5) : s.sheep.get(sheep)[M];
        }

        public int feed(long word, int n) {
            if (!in(n, 1, 8)) {
                return err(1);
            }
            if (s.tape.length() + n > 50) {
                return err(4);
            }
            for (int i = 0; i < n; i++) {
                s.tape += (char) (word & 0xff);
                word >>= 8;
            }
            return s.tape.length();
        }

        public int text(int use) {
            if (!in(use, 0, 1)) {
                return err(1);
            }
            int fault = fault(s.tape, use == 0 ? "csh" : "dwm");
            if (fault < 0) {
                s.texts[use] = s.tape;
            }
            s.tape = "";
            return fault < 0 ? 1 : -10 - fault;
        }

        public int law(int use, int a, int b, int c) {
            return in(use, 0, 1) ? s.law(use, a, b, c) : err(1);
        }

        public int hours(int n) {
            if (!in(n, 1, 60)) {
                return err(1);
            }
            if (s.hour + n > 9999) {
                return err(3);
            }
            s = s.behind(n);
            return s.found();
        }

        public int loose(int n) {
            if (!in(n, 1, 40)) {
                return err(1);
            }
            if (s.hour + n > 9999) {
                return err(3);
            }
            for (int i = 0; i < n; i++) {
                s.z = (int) (s.z * 1103515245L + 12345L);
                int draw = s.z >>> 8;
                int cell = draw % 10;
                s.snow[cell] = Math.min(999, s.snow[cell] + draw / 8 % 30);
                s.hour(new ArrayList<>());
            }
            return s.found();
        }

        public int then(int n, int sheep, int what) {
            if (!in(n, 0, 60) || noSheep(sheep) || !in(what, 0, 2)) {
                return err(1);
            }
            Now b = s.behind(n);
            int[] x = b.sheep.get(sheep);
            return what == 0 ? x[WARMTH] : what == 1 ? x[FOUND] : b.snow[x[CELL]];
        }

        public int when(int sheep) {
            if (noSheep(sheep)) {
                return err(1);
            }
            Now b = s.copy();
            for (int n = 0; n <= 60; n++) {
                if (b.sheep.get(sheep)[FOUND] == 1) {
                    return n;
                }
                b.hour(new ArrayList<>());
            }
            return err(2);
        }

        public int saved() {
            return s.behind(60).found();
        }

        public int add(int sheep, int n) {
            if (noSheep(sheep) || !in(n, 0, 20)) {
                return err(1);
            }
            List<Integer> sets = new ArrayList<>();
            for (int set = 0; set < 1 << s.seekers.size(); set++) {
                if ((set & s.sheep.get(sheep)[MARK]) == 0) {
                    sets.add(Integer.bitCount(set) * 1000 + set);
                }
            }
            Collections.sort(sets);
            for (int set : sets) {
                Now b = s.copy();
                b.sheep.get(sheep)[MARK] |= set % 1000;
                if ((b.behind(n).found() >> sheep & 1) == 1) {
                    return set % 1000;
                }
            }
            return err(2);
        }

        public int start(int seeker, int n, int what) {
            if (noSeeker(seeker) || !in(n, 0, 20) || !in(what, 0, 1)) {
                return err(1);
            }
            int best = Integer.MIN_VALUE;
            for (int cell = 0; cell < 10; cell++) {
                Now b = s.copy();
                b.seekers.get(seeker)[0] = cell;
                best = Math.max(best, Integer.bitCount(b.behind(n).found()) * 100 + 99 - cell);
            }
            return what == 0 ? 99 - best % 100 : best / 100;
        }

        public int missed(int n, int what) {
            if (!in(n, 0, 60) || !in(what, 0, 1)) {
                return err(1);
            }
            if (s.seekers.isEmpty()) {
                return err(2);
            }
            int best = Integer.MAX_VALUE;
            for (int k = 0; k < s.seekers.size(); k++) {
                Now b = s.copy();
                for (int[] x : b.sheep) {
                    x[MARK] = x[MARK] & (63 ^ 1 << k);
                }
                best = Math.min(best, Integer.bitCount(b.behind(n).found()) * 100 + k);
            }
            return what == 0 ? best % 100 : best / 100;
        }

        public int nobody() {
            int set = 0;
            for (int i = 0; i < s.sheep.size(); i++) {
                boolean sought = false;
                for (int k = 0; k < s.seekers.size(); k++) {
                    sought |= s.out(k) == i;
                }
                int[] x = s.sheep.get(i);
                set += !sought && x[FOUND] == 0 && x[WARMTH] > 0 ? 1 << i : 0;
            }
            return set;
        }

        public int lies(int sheet, int sheep, int what) {
            if (!in(sheet, 0, 3) || noSheep(sheep) || !in(what, 0, 1)) {
                return err(1);
            }
            if (sheets[sheet] == null || sheets[sheet].length != 10) {
                return err(2);
            }
            int set = 0;
            for (int cell = 0; cell < 10; cell++) {
                Now b = s.copy();
                b.sheep.get(sheep)[CELL] = cell;
                set += Arrays.equals(b.behind(1).snow, sheets[sheet]) ? 1 << cell : 0;
            }
            return what == 0 ? set : Integer.bitCount(set);
        }

        List<Integer> findsIn60() {
            List<Integer> finds = new ArrayList<>();
            Now b = s.copy();
            for (int i = 0; i < 60; i++) {
                b.hour(finds);
            }
            return finds;
        }

        public int order(int sheet) {
            if (!in(sheet, 0, 3)) {
                return err(1);
            }
            if (sheets[sheet] == null) {
                return err(2);
            }
            List<Integer> finds = findsIn60();
            int right = 0;
            for (int v : sheets[sheet]) {
                if (right == finds.size() || finds.get(right) != v) {
                    break;
                }
                right++;
            }
            return right;
        }

        public int strong(int seeker, int sheep, int n) {
            if (noSeeker(seeker) || noSheep(sheep) || !in(n, 0, 20)) {
                return err(1);
            }
            for (int v = 0; v < 100; v++) {
                Now b = s.copy();
                b.seekers.get(seeker)[1] = v;
                if (b.behind(n).sheep.get(sheep)[FOUND] == 1) {
                    return v;
                }
            }
            return err(2);
        }

        public int odds(int sheep, int n, int part) {
            if (noSheep(sheep) || !in(n, 0, 60) || !in(part, 0, 1)) {
                return err(1);
            }
            int k = 0;
            for (int cell = 0; cell < 10; cell++) {
                Now b = s.copy();
                b.sheep.get(sheep)[CELL] = cell;
                k += b.behind(n).sheep.get(sheep)[FOUND];
            }
            int[] above = {0, 1, 1, 3, 2, 1, 3, 7, 4, 9, 1};
            int[] below = {1, 10, 5, 10, 5, 2, 5, 10, 5, 10, 1};
            return part == 0 ? above[k] : below[k];
        }

        public int seed(int v) {
            int was = s.z;
            s.z = v;
            return was;
        }

        public int voice(int sheep, int act, int x) {
            if (noSheep(sheep) || !in(act, 0, 3)) {
                return err(1);
            }
            int[] one = s.sheep.get(sheep);
            trace = new ArrayList<>();
            Beast[] beasts = {new Beast(), new Tup(), new Ewe(), new Lamb(), new Bell(), new Topp(), new Pot()};
            Beast beast = beasts[one[KIND]];
            beast.n = sheep;
            beast.m = one[M];
            beast.trace = trace;
            return act == 0 ? beast.bleats(x) : act == 1 ? beast.waits(x) : act == 2 ? beast.shivers(x) : beast.tells(x);
        }

        public int trace(int i) {
            return in(i, 0, Math.min(40, trace.size()) - 1) ? trace.get(i) : err(2);
        }

        public int sheet(int sheet, int b, int n) {
            if (!in(sheet, 0, 3) || !List.of(0, 8, 16, 32).contains(b)) {
                return err(1);
            }
            if (b != 0 && n < 0) {
                return err(3);
            }
            if (b != 0 && n > 40) {
                return err(1);
            }
            bits[sheet] = b;
            sheets[sheet] = b == 0 ? null : new int[n];
            return 1;
        }

        public int put(int sheet, int i, int v) {
            if (!in(sheet, 0, 3)) {
                return err(1);
            }
            if (sheets[sheet] == null) {
                return err(2);
            }
            if (!in(i, 0, sheets[sheet].length - 1)) {
                return err(1);
            }
            sheets[sheet][i] = v << (32 - bits[sheet]) >> (32 - bits[sheet]);
            return 1;
        }

        public int move(int sheet, int i, int other, int j, int n) {
            if (!in(sheet, 0, 3) || !in(other, 0, 3)) {
                return err(1);
            }
            if (sheets[sheet] == null || sheets[other] == null) {
                return err(2);
            }
            if (bits[sheet] != bits[other]) {
                return err(5);
            }
            if (n < 0 || i < 0 || j < 0 || (long) i + n > sheets[sheet].length || (long) j + n > sheets[other].length) {
                return err(1);
            }
            int[] were = sheets[sheet].clone();
            for (int k = 0; k < n; k++) {
                sheets[other][j + k] = were[i + k];
            }
            return n;
        }

        public int snows(int sheet) {
            if (!in(sheet, 0, 3)) {
                return err(1);
            }
            if (sheets[sheet] == null) {
                return err(2);
            }
            for (int i = 0; i < sheets[sheet].length; i++) {
                if (i == 10 || !in(sheets[sheet][i], 0, 999)) {
                    return i;
                }
                s.snow[i] = sheets[sheet][i];
            }
            return sheets[sheet].length;
        }

        public int judge(int sheet) {
            if (!in(sheet, 0, 3)) {
                return err(1);
            }
            if (sheets[sheet] == null) {
                return err(2);
            }
            for (int i = 0; i < 50; i++) {
                Integer is = i < s.sheep.size() ? s.sheep.get(i)[WARMTH] : null;
                Integer said = i < sheets[sheet].length ? sheets[sheet][i] : null;
                if (is == null ? said != null : !is.equals(said)) {
                    return i;
                }
            }
            return -1;
        }

        public int image() {
            kept = s.copy();
            return ++images;
        }

        public int restore() {
            if (kept == null) {
                return err(2);
            }
            s = kept.copy();
            return s.hour;
        }

        public int tell(int v) {
            if (s.waiting.size() == 20) {
                return err(4);
            }
            s.waiting.add(v);
            return s.waiting.size();
        }

        public int check() {
            List<Integer> said = s.waiting;
            s.waiting = new ArrayList<>();
            for (int i = 0; i < said.size(); i++) {
                if (said.get(i) != Integer.bitCount(s.behind(i + 1).found())) {
                    return 1 + i;
                }
            }
            return 0;
        }

        public int count(int what) {
            if (!in(what, 0, 9)) {
                return err(1);
            }
            int lost = 0;
            for (int i = 0; i < s.sheep.size(); i++) {
                lost += s.sheep.get(i)[FOUND] + s.sheep.get(i)[WARMTH] == 0 ? 1 << i : 0;
            }
            return new int[] {s.seekers.size(), s.sheep.size(), s.hour, Arrays.stream(s.snow).sum(), s.found(), lost,
                s.tape.length(), s.waiting.size(), Math.min(40, trace.size()), s.z}[what];
        }

        public int told(int k) {
            return in(k, 1, 5) ? told.getOrDefault(k, 0) : err(1);
        }
    }

    /** The kinds as Java's own classes, whose calls and supers the document copies. */
    private static class Beast {
        int n;
        int m;
        List<Integer> trace;

        int bleats(int x) {
            trace.add(10);
            return x + n;
        }

        int waits(int x) {
            trace.add(11);
            return bleats(x) * 2;
        }

        int shivers(int x) {
            trace.add(12);
            return x - m;
        }

        int tells(int x) {
            trace.add(13);
            return waits(x) ^ shivers(x);
        }
    }

    private static class Tup extends Beast {
        @Override int bleats(int x) {
            trace.add(20);
            return super.bleats(x) * 3;
        }
    }

    private static class Ewe extends Beast {
        @Override int waits(int x) {
            trace.add(30);
            return super.waits(x) - shivers(1);
        }
    }

    private static class Lamb extends Beast {
        @Override int shivers(int x) {
            trace.add(40);
            return -super.shivers(x);
        }
    }

    private static final class Bell extends Tup {
        @Override int tells(int x) {
            trace.add(50);
            return super.tells(x) - bleats(2);
        }
    }

    private static final class Topp extends Ewe {
        @Override int waits(int x) {
            trace.add(60);
            return super.waits(x + 1);
        }
    }

    private static final class Pot extends Lamb {
        @Override int shivers(int x) {
            trace.add(70);
            return super.shivers(x) ^ n;
        }

        @Override int tells(int x) {
            trace.add(71);
            return waits(x) - super.tells(x);
        }
    }
}
