/** A moor under snow, sheep marked with those who would miss them, and seekers who go out by the marks. */
public final class RaddleMarks {

    private static final int LOW = -1000000000;
    private static final int BEYOND = 1;
    private static final int NONE = 2;
    private static final int STATE = 3;
    private static final int FULL = 4;
    private static final int UNLIKE = 5;
    private static final int ERRORS = 5;

    private static final int CELLS = 10;
    private static final int MOST_SNOW = 999;
    private static final int MOST_HOUR = 9999;
    private static final int MOST_SEEKERS = 6;
    private static final int MOST_STRENGTH = 99;
    private static final int MOST_SHEEP = 7;
    private static final int MOST_WARMTH = 99;
    private static final int NUMBERS_M = 10;

    private static final int MOST_HOURS_AHEAD = 60;
    private static final int MOST_HOURS_WEIGHED = 20;
    private static final int MOST_LOOSE_HOURS = 40;

    private static final int KINDS = 7;
    private static final int TUP = 1;
    private static final int EWE = 2;
    private static final int LAMB = 3;
    private static final int BELL = 4;
    private static final int TOPP = 5;
    private static final int POT = 6;
    private static final int[] KIND_ABOVE = {-1, 0, 0, 0, TUP, EWE, LAMB};

    private static final int MOST_BYTES = 50;
    private static final int FALLS = 0;
    private static final int USES = 2;
    private static final int MOST_FALL = 99;
    private static final int NAMES_OF_A_USE = 3;
    private static final char[] NAMES = {'c', 's', 'h', 'd', 'w', 'm'};
    private static final int FAULT_AT_FIRST_BYTE = -10;

    private static final int SHEETS = 4;
    private static final int MOST_NUMBERS = 40;
    private static final int MOST_WAITING = 20;

    private static final int ACTS = 4;
    private static final int BLEATS = 0;
    private static final int WAITS = 1;
    private static final int SHIVERS = 2;
    private static final int TELLS = 3;
    private static final int MOST_TRACE = 40;
    /** A row of four acts for each kind; 0 where a kind has no body of its own. */
    private static final int[] BODIES = {
        10, 11, 12, 13,
        20, 0, 0, 0,
        0, 30, 0, 0,
        0, 0, 40, 0,
        0, 0, 0, 50,
        0, 60, 0, 0,
        0, 0, 70, 71};

    private final World now = new World();
    private final World kept = new World();
    private final Moor thought = new Moor();
    private final Reader reader = new Reader();
    private final Voices voices = new Voices();
    private final Sheet[] sheets = new Sheet[SHEETS];
    private final int[] refusals = new int[ERRORS + 1];
    private int images;

    public RaddleMarks() {
        for (int i = 0; i < SHEETS; i++) {
            sheets[i] = new Sheet();
        }
    }

    // ---- the moor, seekers, sheep

    public int snow(int cell, int v) {
        if (!isCell(cell) || !isWithin(v, MOST_SNOW)) {
            return refuse(BEYOND);
        }
        int was = now.moor.snow[cell];
        now.moor.snow[cell] = v;
        return was;
    }

    public int ofCell(int cell, int what) {
        if (!isCell(cell)) {
            return refuse(BEYOND);
        }
        switch (what) {
            case 0:
                return now.moor.snow[cell];
            case 1:
                return now.moor.seekersAt(cell);
            case 2:
                return now.moor.sheepIn(cell);
            default:
                return refuse(BEYOND);
        }
    }

    public int seeker(int cell, int strength) {
        if (!isCell(cell) || !isWithin(strength, MOST_STRENGTH)) {
            return refuse(BEYOND);
        }
        int number = now.moor.seekerCount;
        if (number >= MOST_SEEKERS) {
            return refuse(FULL);
        }
        now.moor.seekers[number].at = cell;
        now.moor.seekers[number].strength = strength;
        now.moor.seekerCount = number + 1;
        return number;
    }

    public int ofSeeker(int seeker, int what) {
        if (!isSeeker(seeker)) {
            return refuse(BEYOND);
        }
        switch (what) {
            case 0:
                return now.moor.seekers[seeker].at;
            case 1:
                return now.moor.seekers[seeker].strength;
            case 2:
                return now.moor.outFor(seeker);
            default:
                return refuse(BEYOND);
        }
    }

    public int send(int seeker, int what, int v) {
        if (!isSeeker(seeker)) {
            return refuse(BEYOND);
        }
        Seeker one = now.moor.seekers[seeker];
        if (what == 0 && isCell(v)) {
            int was = one.at;
            one.at = v;
            return was;
        }
        if (what == 1 && isWithin(v, MOST_STRENGTH)) {
            int was = one.strength;
            one.strength = v;
            return was;
        }
        return refuse(BEYOND);
    }

    public int sheep(int km, int cell, int warmth, int mark) {
        if (!isKindWithM(km) || !isCell(cell) || !isWithin(warmth, MOST_WARMTH) || !isMark(mark)) {
            return refuse(BEYOND);
        }
        int number = now.moor.sheepCount;
        if (number >= MOST_SHEEP) {
            return refuse(FULL);
        }
        Sheep one = now.moor.flock[number];
        one.kind = km / NUMBERS_M;
        one.m = km % NUMBERS_M;
        one.cell = cell;
        one.warmth = warmth;
        one.mark = mark;
        one.found = false;
        now.moor.sheepCount = number + 1;
        return number;
    }

    public int ofSheep(int sheep, int what) {
        if (!isSheep(sheep)) {
            return refuse(BEYOND);
        }
        Sheep one = now.moor.flock[sheep];
        switch (what) {
            case 0:
                return one.kind;
            case 1:
                return one.m;
            case 2:
                return one.cell;
            case 3:
                return one.warmth;
            case 4:
                return one.mark;
            case 5:
                return one.found ? 1 : 0;
            case 6:
                return one.heard(now.moor.hour);
            case 7:
                return one.cold(now.moor.hour);
            default:
                return refuse(BEYOND);
        }
    }

    public int change(int sheep, int what, int v) {
        if (!isSheep(sheep) || !isChange(what, v)) {
            return refuse(BEYOND);
        }
        Sheep one = now.moor.flock[sheep];
        int was;
        switch (what) {
            case 0:
                was = one.cell;
                one.cell = v;
                return was;
            case 1:
                was = one.warmth;
                one.warmth = v;
                return was;
            case 2:
                was = one.mark;
                one.mark = v;
                return was;
            default:
                was = one.found ? 1 : 0;
                one.found = v == 1;
                return was;
        }
    }

    public int become(int sheep, int km) {
        if (!isSheep(sheep) || !isKindWithM(km)) {
            return refuse(BEYOND);
        }
        Sheep one = now.moor.flock[sheep];
        int was = one.kind;
        one.kind = km / NUMBERS_M;
        one.m = km % NUMBERS_M;
        return was;
    }

    public int as(int sheep, int kind) {
        if (!isSheep(sheep) || !isWithin(kind, KINDS - 1)) {
            return refuse(BEYOND);
        }
        Sheep one = now.moor.flock[sheep];
        return isOfKind(one.kind, kind) ? one.m : refuse(UNLIKE);
    }

    // ---- texts

    public int feed(long word, int n) {
        if (n < 1 || n > 8) {
            return refuse(BEYOND);
        }
        if (now.tape.size + n > MOST_BYTES) {
            return refuse(FULL);
        }
        for (int i = 0; i < n; i++) {
            now.tape.append((int) (word >>> (8 * i)) & 255);
        }
        return now.tape.size;
    }

    public int text(int use) {
        if (!isWithin(use, USES - 1)) {
            return refuse(BEYOND);
        }
        boolean isText = reader.read(now.tape, use);
        now.tape.clear();
        if (!isText) {
            return FAULT_AT_FIRST_BYTE - reader.place;
        }
        now.moor.lawOf(use).code.copyFrom(reader.code);
        return 1;
    }

    public int law(int use, int a, int b, int c) {
        if (!isWithin(use, USES - 1)) {
            return refuse(BEYOND);
        }
        return now.moor.lawOf(use).gives(a, b, c);
    }

    // ---- hours

    public int hours(int n) {
        if (n < 1 || n > MOST_HOURS_AHEAD) {
            return refuse(BEYOND);
        }
        if (now.moor.hour + n > MOST_HOUR) {
            return refuse(STATE);
        }
        now.moor.passHours(n);
        return now.moor.foundSet();
    }

    public int loose(int n) {
        if (n < 1 || n > MOST_LOOSE_HOURS) {
            return refuse(BEYOND);
        }
        if (now.moor.hour + n > MOST_HOUR) {
            return refuse(STATE);
        }
        for (int i = 0; i < n; i++) {
            now.drift();
            now.moor.passHours(1);
        }
        return now.moor.foundSet();
    }

    // ---- what would be

    public int then(int n, int sheep, int what) {
        if (!isWithin(n, MOST_HOURS_AHEAD) || !isSheep(sheep) || !isWithin(what, 2)) {
            return refuse(BEYOND);
        }
        thinkFromNow();
        thought.passHours(n);
        Sheep one = thought.flock[sheep];
        switch (what) {
            case 0:
                return one.warmth;
            case 1:
                return one.found ? 1 : 0;
            default:
                return thought.snowAt(one.cell);
        }
    }

    public int when(int sheep) {
        if (!isSheep(sheep)) {
            return refuse(BEYOND);
        }
        thinkFromNow();
        int hours = thought.passHoursFor(sheep, MOST_HOURS_AHEAD);
        return thought.flock[sheep].found ? hours : refuse(NONE);
    }

    public int saved() {
        thinkFromNow();
        thought.passHours(MOST_HOURS_AHEAD);
        return thought.foundSet();
    }

    public int add(int sheep, int n) {
        if (!isSheep(sheep) || !isWithin(n, MOST_HOURS_WEIGHED)) {
            return refuse(BEYOND);
        }
        int mark = now.moor.flock[sheep].mark;
        int best = -1;
        int fewest = MOST_SEEKERS + 1;
        for (int set = 0; set < 1 << now.moor.seekerCount; set++) {
            boolean isNew = (set & mark) == 0 && Integer.bitCount(set) < fewest;
            if (!isNew) {
                continue;
            }
            thinkFromNow();
            thought.flock[sheep].mark = mark | set;
            thought.passHoursFor(sheep, n);
            if (thought.flock[sheep].found) {
                best = set;
                fewest = Integer.bitCount(set);
            }
        }
        return best >= 0 ? best : refuse(NONE);
    }

    public int start(int seeker, int n, int what) {
        if (!isSeeker(seeker) || !isWithin(n, MOST_HOURS_WEIGHED) || !isWithin(what, 1)) {
            return refuse(BEYOND);
        }
        int best = 0;
        int most = -1;
        for (int cell = 0; cell < CELLS; cell++) {
            thinkFromNow();
            thought.seekers[seeker].at = cell;
            thought.passHours(n);
            int found = Integer.bitCount(thought.foundSet());
            if (found > most) {
                best = cell;
                most = found;
            }
        }
        return what == 0 ? best : most;
    }

    public int missed(int n, int what) {
        if (!isWithin(n, MOST_HOURS_AHEAD) || !isWithin(what, 1)) {
            return refuse(BEYOND);
        }
        if (now.moor.seekerCount == 0) {
            return refuse(NONE);
        }
        int best = 0;
        int fewest = MOST_SHEEP + 1;
        for (int seeker = 0; seeker < now.moor.seekerCount; seeker++) {
            thinkFromNow();
            thought.takeFromMarks(seeker);
            thought.passHours(n);
            int found = Integer.bitCount(thought.foundSet());
            if (found < fewest) {
                best = seeker;
                fewest = found;
            }
        }
        return what == 0 ? best : fewest;
    }

    public int nobody() {
        int unsought = now.moor.soughtSet();
        for (int seeker = 0; seeker < now.moor.seekerCount; seeker++) {
            int sheep = now.moor.outFor(seeker);
            if (sheep >= 0) {
                unsought &= ~(1 << sheep);
            }
        }
        return unsought;
    }

    public int lies(int sheet, int sheep, int what) {
        if (!isSheet(sheet) || !isSheep(sheep) || !isWithin(what, 1)) {
            return refuse(BEYOND);
        }
        Sheet told = sheets[sheet];
        if (told.isMissing() || told.numbers.size != CELLS) {
            return refuse(NONE);
        }
        int cells = 0;
        for (int cell = 0; cell < CELLS; cell++) {
            thinkFromNow();
            thought.flock[sheep].cell = cell;
            thought.passHours(1);
            if (thought.hasSnowAs(told.numbers)) {
                cells |= 1 << cell;
            }
        }
        return what == 0 ? cells : Integer.bitCount(cells);
    }

    public int order(int sheet) {
        if (!isSheet(sheet)) {
            return refuse(BEYOND);
        }
        Sheet told = sheets[sheet];
        if (told.isMissing()) {
            return refuse(NONE);
        }
        thinkFromNow();
        thought.passHours(MOST_HOURS_AHEAD);
        Row finds = thought.finds;
        int right = 0;
        while (right < finds.size && right < told.numbers.size
                && finds.get(right) == told.numbers.get(right)) {
            right++;
        }
        return right;
    }

    public int strong(int seeker, int sheep, int n) {
        if (!isSeeker(seeker) || !isSheep(sheep) || !isWithin(n, MOST_HOURS_WEIGHED)) {
            return refuse(BEYOND);
        }
        for (int strength = 0; strength <= MOST_STRENGTH; strength++) {
            thinkFromNow();
            thought.seekers[seeker].strength = strength;
            thought.passHoursFor(sheep, n);
            if (thought.flock[sheep].found) {
                return strength;
            }
        }
        return refuse(NONE);
    }

    public int odds(int sheep, int n, int part) {
        if (!isSheep(sheep) || !isWithin(n, MOST_HOURS_AHEAD) || !isWithin(part, 1)) {
            return refuse(BEYOND);
        }
        int found = 0;
        for (int cell = 0; cell < CELLS; cell++) {
            thinkFromNow();
            thought.flock[sheep].cell = cell;
            thought.passHoursFor(sheep, n);
            if (thought.flock[sheep].found) {
                found++;
            }
        }
        return partOfFraction(found, part);
    }

    // ---- draws, voices, sheets, images, what is told

    public int seed(int v) {
        int was = now.z;
        now.z = v;
        return was;
    }

    public int voice(int sheep, int act, int x) {
        if (!isSheep(sheep) || !isWithin(act, ACTS - 1)) {
            return refuse(BEYOND);
        }
        Sheep one = now.moor.flock[sheep];
        return voices.raise(one.kind, sheep, one.m, act, x);
    }

    public int trace(int i) {
        return voices.trace.holds(i) ? voices.trace.get(i) : refuse(NONE);
    }

    public int sheet(int sheet, int bits, int n) {
        if (!isSheet(sheet) || !(bits == 0 || bits == 8 || bits == 16 || bits == 32)) {
            return refuse(BEYOND);
        }
        if (bits == 0) {
            sheets[sheet].begin(0, 0);
            return 1;
        }
        if (n < 0) {
            return refuse(STATE);
        }
        if (n > MOST_NUMBERS) {
            return refuse(BEYOND);
        }
        sheets[sheet].begin(bits, n);
        return 1;
    }

    public int put(int sheet, int i, int v) {
        if (!isSheet(sheet)) {
            return refuse(BEYOND);
        }
        Sheet one = sheets[sheet];
        if (one.isMissing()) {
            return refuse(NONE);
        }
        if (!one.numbers.holds(i)) {
            return refuse(BEYOND);
        }
        one.numbers.replace(i, one.lowestBits(v));
        return 1;
    }

    public int move(int sheet, int i, int other, int j, int n) {
        if (!isSheet(sheet) || !isSheet(other)) {
            return refuse(BEYOND);
        }
        Sheet from = sheets[sheet];
        Sheet to = sheets[other];
        if (from.isMissing() || to.isMissing()) {
            return refuse(NONE);
        }
        if (from.bits != to.bits) {
            return refuse(UNLIKE);
        }
        if (!from.numbers.holdsRun(i, n) || !to.numbers.holdsRun(j, n)) {
            return refuse(BEYOND);
        }
        to.numbers.replaceRun(j, from.numbers, i, n);
        return n;
    }

    public int snows(int sheet) {
        if (!isSheet(sheet)) {
            return refuse(BEYOND);
        }
        Sheet told = sheets[sheet];
        if (told.isMissing()) {
            return refuse(NONE);
        }
        int cell = 0;
        while (cell < CELLS && cell < told.numbers.size && isWithin(told.numbers.get(cell), MOST_SNOW)) {
            now.moor.snow[cell] = told.numbers.get(cell);
            cell++;
        }
        return cell;
    }

    public int judge(int sheet) {
        if (!isSheet(sheet)) {
            return refuse(BEYOND);
        }
        Row told = sheets[sheet].numbers;
        if (sheets[sheet].isMissing()) {
            return refuse(NONE);
        }
        int both = Math.min(told.size, now.moor.sheepCount);
        for (int i = 0; i < both; i++) {
            if (told.get(i) != now.moor.flock[i].warmth) {
                return i;
            }
        }
        return told.size == now.moor.sheepCount ? -1 : both;
    }

    public int image() {
        kept.copyFrom(now);
        images++;
        return images;
    }

    public int restore() {
        if (images == 0) {
            return refuse(NONE);
        }
        now.copyFrom(kept);
        return now.moor.hour;
    }

    public int tell(int v) {
        return now.waiting.append(v) ? now.waiting.size : refuse(FULL);
    }

    public int check() {
        thinkFromNow();
        int verdict = 0;
        for (int i = 0; i < now.waiting.size && verdict == 0; i++) {
            thought.passHours(1);
            if (now.waiting.get(i) != Integer.bitCount(thought.foundSet())) {
                verdict = 1 + i;
            }
        }
        now.waiting.clear();
        return verdict;
    }

    public int count(int what) {
        switch (what) {
            case 0:
                return now.moor.seekerCount;
            case 1:
                return now.moor.sheepCount;
            case 2:
                return now.moor.hour;
            case 3:
                return now.moor.snowInAll();
            case 4:
                return now.moor.foundSet();
            case 5:
                return now.moor.lostSet();
            case 6:
                return now.tape.size;
            case 7:
                return now.waiting.size;
            case 8:
                return voices.trace.size;
            case 9:
                return now.z;
            default:
                return refuse(BEYOND);
        }
    }

    public int told(int k) {
        return k >= 1 && k <= ERRORS ? refusals[k] : refuse(BEYOND);
    }

    // ---- helpers

    /** Counted here and not by what a call answers: z and voices may be any number, an ERROR's too. */
    private int refuse(int error) {
        if (error >= 1 && error <= ERRORS) {
            refusals[error]++;
        }
        return LOW - error;
    }

    private static boolean isWithin(int v, int most) {
        return v >= 0 && v <= most;
    }

    private static boolean isCell(int cell) {
        return isWithin(cell, CELLS - 1);
    }

    private static boolean isSheet(int sheet) {
        return isWithin(sheet, SHEETS - 1);
    }

    private static boolean isKindWithM(int km) {
        return isWithin(km, KINDS * NUMBERS_M - 1);
    }

    private boolean isSeeker(int seeker) {
        return isWithin(seeker, now.moor.seekerCount - 1);
    }

    private boolean isSheep(int sheep) {
        return isWithin(sheep, now.moor.sheepCount - 1);
    }

    private boolean isMark(int mark) {
        return isWithin(mark, (1 << now.moor.seekerCount) - 1);
    }

    private boolean isChange(int what, int v) {
        switch (what) {
            case 0:
                return isCell(v);
            case 1:
                return isWithin(v, MOST_WARMTH);
            case 2:
                return isMark(v);
            case 3:
                return isWithin(v, 1);
            default:
                return false;
        }
    }

    private static boolean isOfKind(int kind, int wanted) {
        int one = kind;
        for (int i = 0; i < KINDS && isWithin(one, KINDS - 1); i++) {
            if (one == wanted) {
                return true;
            }
            one = KIND_ABOVE[one];
        }
        return false;
    }

    private void thinkFromNow() {
        thought.copyFrom(now.moor);
    }

    /** A part of so many CELLS of all, as a fraction in lowest terms: 0 what stands above the line, 1 below. */
    private static int partOfFraction(int cells, int part) {
        int wanted = part == 0 ? cells : CELLS;
        for (int divisor = CELLS; divisor >= 2; divisor--) {
            if (cells % divisor == 0 && CELLS % divisor == 0) {
                return wanted / divisor;
            }
        }
        return wanted;
    }

    /** Numbers one behind the other, with room for so many and no more. */
    private static final class Row {
        final int[] items;
        int size;

        Row(int most) {
            items = new int[Math.max(0, most)];
        }

        boolean holds(int i) {
            return i >= 0 && i < size;
        }

        /** Asked without a sum, which might go round. */
        boolean holdsRun(int from, int n) {
            return n >= 0 && n <= size && from >= 0 && from <= size - n;
        }

        int get(int i) {
            return i >= 0 && i < size ? items[i] : 0;
        }

        boolean append(int v) {
            if (size >= items.length) {
                return false;
            }
            items[size] = v;
            size++;
            return true;
        }

        int takeLast() {
            if (size <= 0) {
                return 0;
            }
            size--;
            return items[size];
        }

        void replace(int i, int v) {
            if (holds(i)) {
                items[i] = v;
            }
        }

        void replaceRun(int to, Row other, int from, int n) {
            if (holdsRun(to, n) && other.holdsRun(from, n)) {
                System.arraycopy(other.items, from, items, to, n);
            }
        }

        void clear() {
            size = 0;
        }

        void fillWithZeros(int n) {
            size = Math.max(0, Math.min(n, items.length));
            for (int i = 0; i < size; i++) {
                items[i] = 0;
            }
        }

        void copyFrom(Row other) {
            size = Math.min(other.size, items.length);
            System.arraycopy(other.items, 0, items, 0, size);
        }
    }

    /** A row of numbers of so many bits; missing, if of none. */
    private static final class Sheet {
        final Row numbers = new Row(MOST_NUMBERS);
        int bits;

        boolean isMissing() {
            return bits == 0;
        }

        void begin(int newBits, int n) {
            bits = newBits;
            numbers.fillWithZeros(n);
        }

        int lowestBits(int v) {
            switch (bits) {
                case 8:
                    return (byte) v;
                case 16:
                    return (short) v;
                default:
                    return v;
            }
        }
    }

    private static final class Seeker {
        int at;
        int strength;

        void copyFrom(Seeker other) {
            at = other.at;
            strength = other.strength;
        }
    }

    private static final class Sheep {
        static final int PLAIN_HEARD = 5;
        static final int BELL_HEARD = 50;

        int kind;
        int m;
        int cell;
        int warmth;
        int mark;
        boolean found;

        void copyFrom(Sheep other) {
            kind = other.kind;
            m = other.m;
            cell = other.cell;
            warmth = other.warmth;
            mark = other.mark;
            found = other.found;
        }

        boolean isLost() {
            return !found && warmth == 0;
        }

        boolean isSought() {
            return !found && warmth > 0;
        }

        int heard(int hour) {
            switch (kind) {
                case TUP:
                    return PLAIN_HEARD + m;
                case EWE:
                    return 2 * PLAIN_HEARD;
                case LAMB:
                    return heardAsLamb();
                case BELL:
                    return PLAIN_HEARD + m + BELL_HEARD;
                case TOPP:
                    return hour % 2 == 0 ? 2 * PLAIN_HEARD : 0;
                case POT:
                    return Integer.bitCount(mark) == 1 ? 0 : heardAsLamb();
                default:
                    return PLAIN_HEARD;
            }
        }

        private int heardAsLamb() {
            return Math.max(0, PLAIN_HEARD - m / 2);
        }

        int cold(int hour) {
            switch (kind) {
                case TUP:
                case BELL:
                    return hour % 2 == 0 ? 1 : 0;
                case EWE:
                case TOPP:
                    return 1 + m % 2;
                case LAMB:
                case POT:
                    return 3;
                default:
                    return 1;
            }
        }
    }

    /** Snow, seekers and sheep at an hour, and the laws by which an hour goes by. */
    private static final class Moor {
        final Law falls = new Law(MOST_FALL);
        final Law goesOut = new Law(1);
        final int[] snow = new int[CELLS];
        final Seeker[] seekers = new Seeker[MOST_SEEKERS];
        final Sheep[] flock = new Sheep[MOST_SHEEP];
        /** The sheep found in the latest run of hours, one behind the other. */
        final Row finds = new Row(MOST_SHEEP);
        int seekerCount;
        int sheepCount;
        int hour;

        Moor() {
            for (int i = 0; i < MOST_SEEKERS; i++) {
                seekers[i] = new Seeker();
            }
            for (int i = 0; i < MOST_SHEEP; i++) {
                flock[i] = new Sheep();
            }
        }

        Law lawOf(int use) {
            return use == FALLS ? falls : goesOut;
        }

        void copyFrom(Moor other) {
            falls.code.copyFrom(other.falls.code);
            goesOut.code.copyFrom(other.goesOut.code);
            for (int i = 0; i < CELLS; i++) {
                snow[i] = other.snow[i];
            }
            seekerCount = Math.min(other.seekerCount, MOST_SEEKERS);
            for (int i = 0; i < seekerCount; i++) {
                seekers[i].copyFrom(other.seekers[i]);
            }
            sheepCount = Math.min(other.sheepCount, MOST_SHEEP);
            for (int i = 0; i < sheepCount; i++) {
                flock[i].copyFrom(other.flock[i]);
            }
            hour = other.hour;
        }

        int snowAt(int cell) {
            return isCell(cell) ? snow[cell] : 0;
        }

        void dropSnow(int cell, int more) {
            if (isCell(cell)) {
                snow[cell] = Math.max(0, Math.min(MOST_SNOW, snow[cell] + more));
            }
        }

        int snowInAll() {
            int all = 0;
            for (int cell = 0; cell < CELLS; cell++) {
                all += snow[cell];
            }
            return all;
        }

        boolean hasSnowAs(Row told) {
            for (int cell = 0; cell < CELLS; cell++) {
                if (!told.holds(cell) || told.get(cell) != snow[cell]) {
                    return false;
                }
            }
            return true;
        }

        int seekersAt(int cell) {
            int set = 0;
            for (int i = 0; i < seekerCount; i++) {
                set |= seekers[i].at == cell ? 1 << i : 0;
            }
            return set;
        }

        int sheepIn(int cell) {
            int set = 0;
            for (int i = 0; i < sheepCount; i++) {
                set |= flock[i].cell == cell ? 1 << i : 0;
            }
            return set;
        }

        int foundSet() {
            int set = 0;
            for (int i = 0; i < sheepCount; i++) {
                set |= flock[i].found ? 1 << i : 0;
            }
            return set;
        }

        int lostSet() {
            int set = 0;
            for (int i = 0; i < sheepCount; i++) {
                set |= flock[i].isLost() ? 1 << i : 0;
            }
            return set;
        }

        int soughtSet() {
            int set = 0;
            for (int i = 0; i < sheepCount; i++) {
                set |= flock[i].isSought() ? 1 << i : 0;
            }
            return set;
        }

        void takeFromMarks(int seeker) {
            for (int i = 0; i < sheepCount; i++) {
                flock[i].mark &= ~(1 << seeker);
            }
        }

        /** The sheep for which a seeker is out, or -1. */
        int outFor(int seeker) {
            if (seeker < 0 || seeker >= seekerCount) {
                return -1;
            }
            int best = -1;
            int fewest = CELLS;
            for (int i = 0; i < sheepCount; i++) {
                Sheep one = flock[i];
                int way = Math.abs(one.cell - seekers[seeker].at);
                // The law is dear to work out, so what costs little is asked ahead of it.
                boolean mayGo = one.isSought() && (one.mark >> seeker & 1) == 1 && way < fewest;
                if (mayGo && goesOut.gives(way, one.warmth, one.m) != 0) {
                    best = i;
                    fewest = way;
                }
            }
            return best;
        }

        void passHours(int n) {
            finds.clear();
            for (int i = 0; i < n; i++) {
                passOneHour();
            }
        }

        /** So many hours, or fewer, once it is settled whether a sheep is found: how many it took. */
        int passHoursFor(int sheep, int n) {
            finds.clear();
            int passed = 0;
            while (passed < n && sheep >= 0 && sheep < sheepCount && flock[sheep].isSought()) {
                passOneHour();
                passed++;
            }
            return passed;
        }

        private void passOneHour() {
            for (int cell = 0; cell < CELLS; cell++) {
                dropSnow(cell, falls.gives(cell, snow[cell], hour % 24));
            }
            for (int i = 0; i < seekerCount; i++) {
                seek(seekers[i], outFor(i));
            }
            for (int i = 0; i < sheepCount; i++) {
                freeze(flock[i]);
            }
            hour++;
        }

        private void seek(Seeker seeker, int number) {
            if (number < 0 || number >= sheepCount) {
                return;
            }
            Sheep one = flock[number];
            if (one.cell != seeker.at) {
                seeker.at += one.cell > seeker.at ? 1 : -1;
                return;
            }
            dropSnow(one.cell, -seeker.strength);
            if (snowAt(one.cell) <= one.heard(hour)) {
                one.found = true;
                finds.append(number);
            }
        }

        private void freeze(Sheep one) {
            if (!one.found && snowAt(one.cell) > 0) {
                one.warmth = Math.max(0, one.warmth - one.cold(hour));
            }
        }
    }

    /** A text as it is worked out: numbers as they are, names and signs below 0, each behind what it takes. */
    private static final class Law {
        static final int WITHOUT_TEXT = 1;

        final int most;
        final Row code = new Row(MOST_BYTES);
        final Row open = new Row(MOST_BYTES);

        Law(int most) {
            this.most = most;
        }

        int gives(int a, int b, int c) {
            if (code.size == 0) {
                return WITHOUT_TEXT;
            }
            return Math.max(0, Math.min(most, workOut(a, b, c)));
        }

        private int workOut(int a, int b, int c) {
            open.clear();
            for (int i = 0; i < code.size; i++) {
                int step = code.get(i);
                if (step >= 0) {
                    open.append(step);
                } else if (step >= -NAMES_OF_A_USE) {
                    open.append(step == -1 ? a : step == -2 ? b : c);
                } else if (step == -'!') {
                    open.append(open.takeLast() == 0 ? 1 : 0);
                } else {
                    int right = open.takeLast();
                    int left = open.takeLast();
                    open.append(join(-step, left, right));
                }
            }
            return open.takeLast();
        }

        private static int join(int sign, int left, int right) {
            switch (sign) {
                case '|':
                    return left != 0 || right != 0 ? 1 : 0;
                case '&':
                    return left != 0 && right != 0 ? 1 : 0;
                case '<':
                    return left < right ? 1 : 0;
                case '=':
                    return left == right ? 1 : 0;
                case '>':
                    return left > right ? 1 : 0;
                case '+':
                    return left + right;
                case '-':
                    return left - right;
                case '*':
                    return left * right;
                case '/':
                    return right == 0 ? 0 : left / right;
                default:
                    return right == 0 ? 0 : left % right;
            }
        }
    }

    /** Reads a tape as a text into a law's code; where it can't go on, place tells the byte. */
    private static final class Reader {
        static final int COMPARISONS = 2;
        static final int FACTORS = 5;
        static final int MOST_OPEN = 5;
        static final int MOST_DIGITS = 4;

        final Row bytes = new Row(MOST_BYTES);
        final Row code = new Row(MOST_BYTES);
        int use;
        int place;

        boolean read(Row tape, int forUse) {
            bytes.copyFrom(tape);
            use = forUse;
            place = 0;
            code.clear();
            return readLevel(0, 0) && place == bytes.size;
        }

        /** Levels bind the tighter the higher they are; open is how many of ! and ( stand open. */
        private boolean readLevel(int level, int open) {
            if (level >= FACTORS) {
                return readFactor(open);
            }
            if (!readLevel(level + 1, open)) {
                return false;
            }
            int mostSigns = level == COMPARISONS ? 1 : MOST_BYTES;
            for (int i = 0; i < mostSigns && levelOf(next()) == level; i++) {
                int sign = next();
                place++;
                if (!readLevel(level + 1, open)) {
                    return false;
                }
                code.append(-sign);
            }
            return true;
        }

        private boolean readFactor(int open) {
            int first = next();
            if (isDigit(first)) {
                readNumber();
                return true;
            }
            int name = nameOf(first);
            if (name >= 0) {
                place++;
                code.append(-1 - name);
                return true;
            }
            if (first != '!' && first != '(' || open >= MOST_OPEN) {
                return false;
            }
            place++;
            return first == '!' ? readDenied(open + 1) : readEnclosed(open + 1);
        }

        private boolean readDenied(int open) {
            if (!readFactor(open)) {
                return false;
            }
            code.append(-'!');
            return true;
        }

        private boolean readEnclosed(int open) {
            if (!readLevel(0, open) || next() != ')') {
                return false;
            }
            place++;
            return true;
        }

        private void readNumber() {
            int number = 0;
            for (int i = 0; i < MOST_DIGITS && isDigit(next()); i++) {
                number = number * 10 + (next() - '0');
                place++;
            }
            code.append(number);
        }

        /** -1 behind the end, which is no byte. */
        private int next() {
            return bytes.holds(place) ? bytes.get(place) : -1;
        }

        private int nameOf(int sign) {
            for (int i = 0; i < NAMES_OF_A_USE; i++) {
                int at = use * NAMES_OF_A_USE + i;
                if (at >= 0 && at < NAMES.length && NAMES[at] == sign) {
                    return i;
                }
            }
            return -1;
        }

        private static boolean isDigit(int sign) {
            return sign >= '0' && sign <= '9';
        }

        private static int levelOf(int sign) {
            switch (sign) {
                case '|':
                    return 0;
                case '&':
                    return 1;
                case '<':
                case '=':
                case '>':
                    return COMPARISONS;
                case '+':
                case '-':
                    return 3;
                case '*':
                case '/':
                case '%':
                    return 4;
                default:
                    return -1;
            }
        }
    }

    /** All that an image keeps. */
    private static final class World {
        final Moor moor = new Moor();
        final Row tape = new Row(MOST_BYTES);
        final Row waiting = new Row(MOST_WAITING);
        int z = 1;

        void drift() {
            z = z * 1103515245 + 12345;
            int draw = z >>> 8;
            moor.dropSnow(draw % CELLS, draw / 8 % 30);
        }

        void copyFrom(World other) {
            moor.copyFrom(other.moor);
            tape.copyFrom(other.tape);
            waiting.copyFrom(other.waiting);
            z = other.z;
        }
    }

    /** What a sheep of a kind answers to an act, and which bodies began on the way. */
    private static final class Voices {
        static final int MOST_OPEN = 40;

        final Row trace = new Row(MOST_TRACE);
        int kind;
        int n;
        int m;

        int raise(int ofKind, int number, int ofM, int act, int x) {
            kind = ofKind;
            n = number;
            m = ofM;
            trace.clear();
            return speak(ofKind, act, x, 0);
        }

        private int own(int act, int x, int open) {
            return speak(kind, act, x, open);
        }

        private int above(int bodyKind, int act, int x, int open) {
            return speak(isWithin(bodyKind, KINDS - 1) ? KIND_ABOVE[bodyKind] : 0, act, x, open);
        }

        private int speak(int fromKind, int act, int x, int open) {
            if (open >= MOST_OPEN) {
                return 0;
            }
            int body = bodyFrom(fromKind, act);
            trace.append(body);
            return workOut(body, x, open + 1);
        }

        private static int bodyFrom(int fromKind, int act) {
            int one = fromKind;
            for (int i = 0; i < KINDS && isWithin(one, KINDS - 1) && isWithin(act, ACTS - 1); i++) {
                if (BODIES[one * ACTS + act] != 0) {
                    return BODIES[one * ACTS + act];
                }
                one = KIND_ABOVE[one];
            }
            return 0;
        }

        private int workOut(int body, int x, int open) {
            switch (body) {
                case 10:
                    return x + n;
                case 11:
                    return own(BLEATS, x, open) * 2;
                case 12:
                    return x - m;
                case 13:
                    return own(WAITS, x, open) ^ own(SHIVERS, x, open);
                case 20:
                    return above(TUP, BLEATS, x, open) * 3;
                case 30:
                    return above(EWE, WAITS, x, open) - own(SHIVERS, 1, open);
                case 40:
                    return -above(LAMB, SHIVERS, x, open);
                case 50:
                    return above(BELL, TELLS, x, open) - own(BLEATS, 2, open);
                case 60:
                    return above(TOPP, WAITS, x + 1, open);
                case 70:
                    return above(POT, SHIVERS, x, open) ^ n;
                case 71:
                    return own(WAITS, x, open) - above(POT, TELLS, x, open);
                default:
                    return 0;
            }
        }
    }
}
