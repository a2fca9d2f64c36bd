import java.util.Arrays;
import java.util.NoSuchElementException;

public final class ShingleBank {
    public static final int NONE = -1;

    private static final int TEXT = 600;
    private static final int FEED = 20;
    private static final int CELLS = 12;
    private static final int SIZES = 6;
    private static final int STUFFS = 3;
    private static final int PER_CELL = SIZES * STUFFS;
    private static final int HEAPS = CELLS * PER_CELL;
    private static final int PAINTED = 2;
    private static final int HOURS = 600;
    private static final int LAWS = 4;
    private static final int YEARS = 4;
    private static final int IMAGES = 3;
    private static final int HANDFUL = 4;

    private static final int MOVE = 0;
    private static final int WEAR = 1;
    private static final int OVER = 2;

    private static final int PUT = 0;
    private static final int COME = 1;
    private static final int SAND = 2;
    private static final int BEHIND = 3;
    private static final int SOLD = 4;

    private final byte[] tape = new byte[TEXT];
    private int taped = 0;
    private int faultPlace = NONE;
    private Plan plan = new Plan();
    private Plan draft = new Plan();
    private final Law[] laws = new Law[LAWS];
    private int lawCount = 0;
    private final Year[] years = new Year[YEARS];
    private int yearCount = 0;
    private final Shore live = new Shore();
    private final Shore[] images = new Shore[IMAGES];
    private int imageCount = 0;
    private final int[] refused = new int[4];
    private final Tokens tokens = new Tokens();
    private final ClauseReader clauses = new ClauseReader(tokens);
    private final LawReader rules = new LawReader(tokens);
    private final Sea sea = new Sea(plan);
    private final Trials trials = new Trials(sea);
    private final Senses senses = new Senses();

    public ShingleBank() {
        for (int i = 0; i < LAWS; i++) {
            laws[i] = new Law();
        }
        for (int i = 0; i < YEARS; i++) {
            years[i] = new Year();
        }
        for (int i = 0; i < IMAGES; i++) {
            images[i] = new Shore();
        }
    }

    // ---- refusals ----

    private static boolean isWithin(int n, int low, int high) {
        return n >= low && n <= high;
    }

    private boolean isCell(int cell) {
        return cell >= 0 && cell < live.cells;
    }

    private boolean isSize(int size) {
        return size >= 0 && size < live.sizes;
    }

    private static boolean isStuff(int stuff) {
        return stuff >= 0 && stuff < STUFFS;
    }

    private static boolean isWave(int height, int beat, int from) {
        return isWithin(height, 1, 30) && isWithin(beat, 1, 20) && isWithin(from, 0, 1);
    }

    private void needPlace(boolean known) {
        if (!known) {
            refused[0]++;
            throw new IndexOutOfBoundsException("no such CELL");
        }
    }

    private void needLaw(int law) {
        if (law < 0 || law >= lawCount) {
            refused[1]++;
            throw new NoSuchElementException("no such LAW");
        }
    }

    private void needYear(int year) {
        if (year < 0 || year >= yearCount) {
            refused[1]++;
            throw new NoSuchElementException("no such YEAR");
        }
    }

    private void needRight(boolean right) {
        if (!right) {
            refused[2]++;
            throw new IllegalArgumentException("an argument is none of those that may be");
        }
    }

    private void needHours() {
        if (live.cells == 0 || live.hours >= HOURS) {
            refused[3]++;
            throw new IllegalStateException("there is no BEACH, or its HOURS are over");
        }
    }

    // ---- texts ----

    public int feed(int a, int b, int c, int d, int e) {
        if (taped + FEED > TEXT) {
            return NONE;
        }
        tapeNumber(a);
        tapeNumber(b);
        tapeNumber(c);
        tapeNumber(d);
        tapeNumber(e);
        return taped;
    }

    private void tapeNumber(int n) {
        for (int shift = 24; shift >= 0 && taped < TEXT; shift -= 8) {
            tape[taped] = (byte) (n >>> shift);
            taped++;
        }
    }

    public int beach(int n) throws IllegalArgumentException {
        needRight(isWithin(n, 0, taped));
        taped = 0;
        int kind = clauses.readBeach(tape, n, draft);
        faultPlace = tokens.faultPlace;
        if (kind != 0) {
            return kind - 10;
        }
        Plan old = plan;
        plan = draft;
        draft = old;
        sea.follow(plan);
        live.begin(plan);
        imageCount = 0;
        return live.cells;
    }

    public int law(int n) throws IllegalArgumentException {
        needRight(isWithin(n, 0, taped));
        taped = 0;
        faultPlace = NONE;
        if (lawCount >= LAWS) {
            return -1;
        }
        int kind = rules.readLaw(tape, n, laws[lawCount]);
        faultPlace = tokens.faultPlace;
        if (kind != 0) {
            return kind - 10;
        }
        lawCount++;
        return lawCount - 1;
    }

    public int year(int n) throws IllegalArgumentException {
        needRight(isWithin(n, 0, taped));
        taped = 0;
        faultPlace = NONE;
        if (yearCount >= YEARS) {
            return -1;
        }
        int kind = clauses.readYear(tape, n, years[yearCount]);
        faultPlace = tokens.faultPlace;
        if (kind != 0) {
            return kind - 10;
        }
        yearCount++;
        return yearCount - 1;
    }

    public int fault() {
        return faultPlace;
    }

    public int told(int what) throws IllegalArgumentException {
        needRight(isWithin(what, 0, 6));
        switch (what) {
            case 0: return live.cells;
            case 1: return live.sizes;
            case 2: return plan.springCount;
            case 3: return plan.lorryCount;
            case 4: return lawCount;
            case 5: return yearCount;
            default: return live.hours;
        }
    }

    // ---- the beach as it is ----

    public int stones(int cell, int size, int stuff) throws IndexOutOfBoundsException, IllegalArgumentException {
        needPlace(cell == NONE || isCell(cell));
        needRight((size == NONE || isSize(size)) && (stuff == NONE || isStuff(stuff)));
        int all = 0;
        for (int c = 0; c < live.cells; c++) {
            if (cell == NONE || cell == c) {
                all += live.inCell(c, size, stuff);
            }
        }
        return all;
    }

    public int cell(int cell, int what) throws IndexOutOfBoundsException, IllegalArgumentException {
        needPlace(isCell(cell));
        needRight(isWithin(what, 0, 2));
        if (what == 0) {
            return live.crests[cell];
        }
        return what == 1 ? live.walls[cell] : live.overs[cell];
    }

    public int put(int cell, int size, int stuff, int n) throws IndexOutOfBoundsException, IllegalArgumentException {
        needPlace(isCell(cell));
        needRight(isSize(size) && isStuff(stuff) && isWithin(n, 1, 999));
        int at = Shore.heapAt(cell, size, stuff);
        live.add(at, n);
        live.totals[PUT] += n;
        return live.heaps[at];
    }

    public int says(int law, int what, int cell, int size, int stuff, int height, int beat, int from) throws IndexOutOfBoundsException, NoSuchElementException, IllegalArgumentException {
        needPlace(isCell(cell));
        needLaw(law);
        needRight(isWithin(what, 0, 2) && isSize(size) && isStuff(stuff) && isWave(height, beat, from));
        sea.setWave(height, beat, from);
        if (what == OVER) {
            return sea.reach(laws[law], cell, live.crests[cell]);
        }
        return sea.ask(live, laws[law], what, cell, size, stuff);
    }

    // ---- waves ----

    public int wave(int law, int height, int beat, int from) throws NoSuchElementException, IllegalArgumentException, IllegalStateException {
        needLaw(law);
        needRight(isWave(height, beat, from));
        needHours();
        sea.setWave(height, beat, from);
        return sea.roll(live, laws[law]);
    }

    public int run(int law, int year) throws NoSuchElementException, IllegalStateException {
        needLaw(law);
        needYear(year);
        needHours();
        return sea.rollYear(live, laws[law], years[year]);
    }

    public int lots(int law, int year, int n, int seed) throws NoSuchElementException, IllegalArgumentException, IllegalStateException {
        needLaw(law);
        needYear(year);
        needRight(isWithin(n, 1, 200));
        needHours();
        return sea.rollLots(live, laws[law], years[year], n, seed);
    }

    // ---- order, horns, sounds ----

    public int mean(int cell) throws IndexOutOfBoundsException {
        needPlace(isCell(cell));
        return live.meanOf(cell);
    }

    public int order(int what) throws IllegalArgumentException {
        needRight(isWithin(what, 0, 3));
        switch (what) {
            case 0: return live.pairs(true);
            case 1: return live.pairs(false);
            case 2: return live.horns();
            default: return live.known();
        }
    }

    public int horn(int i) {
        int ahead = i;
        for (int c = 0; c < live.cells; c++) {
            if (live.isHorn(c)) {
                if (ahead == 0) {
                    return c;
                }
                ahead--;
            }
        }
        return NONE;
    }

    public int sound(int cell) throws IndexOutOfBoundsException {
        needPlace(isCell(cell));
        return live.soundOf(cell);
    }

    // ---- a handful in the dark ----

    public int take(int size, int stuff) throws IllegalArgumentException {
        needRight(isSize(size) && isStuff(stuff));
        if (live.inHand >= HANDFUL) {
            return -1;
        }
        live.hand[live.inHand] = Shore.heapAt(0, size, stuff);
        live.inHand++;
        return live.inHand;
    }

    public int drop() {
        int dropped = live.inHand;
        live.inHand = 0;
        return dropped;
    }

    public long word(int cell) throws IndexOutOfBoundsException {
        needPlace(isCell(cell));
        return live.wordOf(cell);
    }

    public int odds(int cell) throws IndexOutOfBoundsException {
        needPlace(isCell(cell));
        senses.feelHand(live);
        return senses.oddsOf(cell);
    }

    public int where(int what) throws IllegalArgumentException {
        needRight(isWithin(what, 0, 2));
        senses.feelHand(live);
        if (what == 0) {
            return senses.guess();
        }
        return what == 1 ? senses.near() : senses.howFar();
    }

    // ---- painted stones and coins ----

    public int found(int size, int s) throws IllegalArgumentException {
        needRight(isSize(size) && isWithin(s, 1, 16));
        int all = 0;
        for (int c = 0; c < live.cells; c++) {
            all += live.inCell(c, size, PAINTED) * s / 16;
        }
        return all;
    }

    public int miles(int size) throws IllegalArgumentException {
        needRight(isSize(size));
        long many = 0;
        long far = 0;
        for (int c = 0; c < live.cells; c++) {
            int here = live.inCell(c, size, PAINTED);
            many += here;
            far += (long) c * here;
        }
        return many == 0 ? NONE : (int) (1000 * far / many);
    }

    public int lost() {
        int here = 0;
        for (int c = 0; c < live.cells; c++) {
            here += live.inCell(c, NONE, PAINTED);
        }
        return live.painted - here;
    }

    public int look(int size, int n, int what) throws IllegalArgumentException {
        needRight(isSize(size) && isWithin(n, 1, live.cells) && isWithin(what, 0, 1));
        int bits = live.richest(size, n);
        return what == 0 ? bits : live.partIn(bits, size);
    }

    // ---- what comes behind a year ----

    public int left(int law, int year, int cell, int size) throws IndexOutOfBoundsException, NoSuchElementException, IllegalArgumentException, IllegalStateException {
        needPlace(isCell(cell));
        needLaw(law);
        needYear(year);
        needRight(isSize(size));
        needHours();
        return trials.behind(live, laws[law], years[year]).inCell(cell, size, NONE);
    }

    public int sample(int cell, int size, int n) throws IndexOutOfBoundsException, IllegalArgumentException {
        needPlace(isCell(cell));
        needRight(isSize(size) && isWithin(n, NONE, 999999));
        int at = cell * SIZES + size;
        int old = live.samples[at];
        live.samples[at] = n;
        return old;
    }

    public int which(int year, int what) throws NoSuchElementException, IllegalArgumentException, IllegalStateException {
        needYear(year);
        needRight(isWithin(what, 0, 1));
        needHours();
        trials.nearest(live, laws, lawCount, years[year]);
        return what == 0 ? trials.best : trials.score;
    }

    public int cost(int law, int year, int wall, int p, int cell) throws IndexOutOfBoundsException, NoSuchElementException, IllegalArgumentException, IllegalStateException {
        needPlace(isCell(cell) && isCell(wall) && wall != live.cells - 1);
        needLaw(law);
        needYear(year);
        needRight(isWithin(p, 0, 16));
        needHours();
        int without = trials.behind(live, laws[law], years[year]).allIn(cell);
        return without - trials.behindWall(live, laws[law], years[year], wall, p).allIn(cell);
    }

    public int raised(int law, int year, int k, int m, int what) throws NoSuchElementException, IllegalArgumentException, IllegalStateException {
        needLaw(law);
        needYear(year);
        needRight(isWithin(k, 1, 3) && k <= live.cells && isWithin(m, 1, 20) && isWithin(what, 0, 1));
        needHours();
        trials.raise(live, laws[law], years[year], k, m);
        return what == 0 ? trials.best : trials.score;
    }

    public int brought(int law, int year, int n, int what) throws NoSuchElementException, IllegalArgumentException, IllegalStateException {
        needLaw(law);
        needYear(year);
        needRight(isWithin(n, 1, 999) && isWithin(what, 0, 1));
        needHours();
        trials.bring(live, laws[law], years[year], n);
        return what == 0 ? trials.best : trials.score;
    }

    public int sums(int what) throws IllegalArgumentException {
        needRight(isWithin(what, PUT, SOLD));
        return live.totals[what];
    }

    public int last(int law, int year, int cell, int n) throws IndexOutOfBoundsException, NoSuchElementException, IllegalArgumentException, IllegalStateException {
        needPlace(isCell(cell));
        needLaw(law);
        needYear(year);
        needRight(isWithin(n, 1, 999999));
        needHours();
        return trials.yearsTillFewer(live, laws[law], years[year], cell, n);
    }

    public int like(int cell, int other) throws IndexOutOfBoundsException {
        needPlace(isCell(cell) && isCell(other));
        int apart = 0;
        for (int i = 0; i < PER_CELL; i++) {
            apart += Math.abs(live.share(cell, i) - live.share(other, i));
        }
        return apart;
    }

    public int walls(int law, int year, int k, int p, int cell, int what) throws IndexOutOfBoundsException, NoSuchElementException, IllegalArgumentException, IllegalStateException {
        needPlace(isCell(cell));
        needLaw(law);
        needYear(year);
        needRight(isWithin(k, 1, 3) && k <= live.cells - 1 && isWithin(p, 1, 16) && isWithin(what, 0, 1));
        needHours();
        trials.wall(live, laws[law], years[year], k, p, cell);
        return what == 0 ? trials.best : trials.score;
    }

    public int high(int law, int year) throws NoSuchElementException, IllegalStateException {
        needLaw(law);
        needYear(year);
        needHours();
        return trials.leastDry(live, laws[law], years[year]);
    }

    public int one(int what) throws IllegalArgumentException {
        needRight(isWithin(what, 0, 1));
        int best = NONE;
        int least = NONE;
        for (int size = 0; size < live.sizes; size++) {
            for (int stuff = 0; stuff < STUFFS; stuff++) {
                senses.feelStone(live, Shore.heapAt(0, size, stuff));
                int far = senses.howFar();
                if (far != NONE && (best == NONE || far < least)) {
                    best = 10 * size + stuff;
                    least = far;
                }
            }
        }
        return what == 0 ? best : least;
    }

    public int seen(int n, int s) throws IllegalArgumentException {
        needRight(isWithin(n, 1, 999) && isWithin(s, 1, 16));
        return s > 0 ? (16 * n + s - 1) / s : NONE;
    }

    // ---- images and counts ----

    public int image() {
        if (imageCount >= IMAGES) {
            return -1;
        }
        images[imageCount].copy(live);
        imageCount++;
        return imageCount;
    }

    public int restore() {
        if (imageCount == 0) {
            return -1;
        }
        imageCount--;
        live.copy(images[imageCount]);
        return imageCount;
    }

    public int status(int what) {
        return what >= 0 && what < refused.length ? refused[what] : NONE;
    }

    public int count(int what) {
        switch (what) {
            case 0: return live.inHand;
            case 1: return imageCount;
            case 2: return taped;
            case 3: return live.sampled();
            default: return NONE;
        }
    }

    /** What the text of a BEACH told, as it stays until the next one. */
    private static final class Plan {
        static final int SPRINGS = 8;
        static final int LORRIES = 4;
        static final int ROW = 4;

        int cells = 0;
        int sizes = 0;
        final int[] heaps = new int[HEAPS];
        final int[] crests = new int[CELLS];
        final int[] walls = new int[CELLS];
        final int[] springs = new int[SPRINGS * ROW];
        int springCount = 0;
        final int[] lorries = new int[LORRIES * ROW];
        int lorryCount = 0;

        void clear() {
            cells = 6;
            sizes = 4;
            Arrays.fill(heaps, 0);
            Arrays.fill(crests, 20);
            Arrays.fill(walls, 0);
            springCount = 0;
            lorryCount = 0;
        }

        void addSpring(int heap, int n) {
            if (springCount < SPRINGS) {
                springs[springCount * ROW] = heap;
                springs[springCount * ROW + 1] = n;
                springCount++;
            }
        }

        void addLorry(int from, int to, int n, int hours) {
            if (lorryCount < LORRIES) {
                int row = lorryCount * ROW;
                lorries[row] = from;
                lorries[row + 1] = to;
                lorries[row + 2] = n;
                lorries[row + 3] = hours;
                lorryCount++;
            }
        }
    }

    /** All that changes on a beach, and so all that an IMAGE keeps. */
    private static final class Shore {
        int cells = 0;
        int sizes = 0;
        final int[] heaps = new int[HEAPS];
        final int[] crests = new int[CELLS];
        final int[] walls = new int[CELLS];
        final int[] overs = new int[CELLS];
        final int[] samples = new int[CELLS * SIZES];
        final int[] hand = new int[HANDFUL];
        int inHand = 0;
        final int[] totals = new int[SOLD + 1];
        int painted = 0;
        int hours = 0;

        static int heapAt(int cell, int size, int stuff) {
            return (cell * SIZES + size) * STUFFS + stuff;
        }

        void begin(Plan plan) {
            cells = plan.cells;
            sizes = plan.sizes;
            System.arraycopy(plan.crests, 0, crests, 0, CELLS);
            System.arraycopy(plan.walls, 0, walls, 0, CELLS);
            Arrays.fill(overs, 0);
            Arrays.fill(samples, NONE);
            inHand = 0;
            hours = 0;
            painted = 0;
            Arrays.fill(totals, 0);
            Arrays.fill(heaps, 0);
            for (int i = 0; i < HEAPS; i++) {
                add(i, plan.heaps[i]);
                totals[PUT] += plan.heaps[i];
            }
        }

        void copy(Shore other) {
            cells = other.cells;
            sizes = other.sizes;
            System.arraycopy(other.heaps, 0, heaps, 0, HEAPS);
            System.arraycopy(other.crests, 0, crests, 0, CELLS);
            System.arraycopy(other.walls, 0, walls, 0, CELLS);
            System.arraycopy(other.overs, 0, overs, 0, CELLS);
            System.arraycopy(other.samples, 0, samples, 0, CELLS * SIZES);
            System.arraycopy(other.hand, 0, hand, 0, HANDFUL);
            System.arraycopy(other.totals, 0, totals, 0, SOLD + 1);
            inHand = other.inHand;
            painted = other.painted;
            hours = other.hours;
        }

        /** New stones, from wherever: painted ones are told here, so that lost ones can be known. */
        void add(int heap, int n) {
            if (heap >= 0 && heap < HEAPS) {
                heaps[heap] += n;
                if (heap % STUFFS == PAINTED) {
                    painted += n;
                }
            }
        }

        /** NONE for the SIZE or the STUFF: of all. */
        int inCell(int cell, int size, int stuff) {
            int all = 0;
            for (int z = 0; z < sizes; z++) {
                for (int k = 0; k < STUFFS; k++) {
                    if ((size == NONE || size == z) && (stuff == NONE || stuff == k)) {
                        all += heaps[heapAt(cell, z, k)];
                    }
                }
            }
            return all;
        }

        int allIn(int cell) {
            int all = 0;
            int first = cell * PER_CELL;
            for (int i = first; i < first + PER_CELL; i++) {
                all += heaps[i];
            }
            return all;
        }

        int meanOf(int cell) {
            long all = allIn(cell);
            if (all == 0) {
                return NONE;
            }
            long weighed = 0;
            for (int z = 0; z < sizes; z++) {
                weighed += (long) z * inCell(cell, z, NONE);
            }
            return (int) (1000 * weighed / all);
        }

        int soundOf(int cell) {
            int mean = meanOf(cell);
            return mean == NONE ? NONE : 60 - mean / 100;
        }

        int pairs(boolean inOrder) {
            int found = 0;
            for (int far = 1; far < cells; far++) {
                int mean = meanOf(far);
                for (int ahead = 0; ahead < far && mean != NONE; ahead++) {
                    int other = meanOf(ahead);
                    if (other != NONE && (!inOrder || mean >= other)) {
                        found++;
                    }
                }
            }
            return found;
        }

        boolean isHorn(int cell) {
            int here = allIn(cell);
            return (cell == 0 || here > allIn(cell - 1)) && (cell == cells - 1 || here > allIn(cell + 1));
        }

        int horns() {
            int found = 0;
            for (int c = 0; c < cells; c++) {
                if (isHorn(c)) {
                    found++;
                }
            }
            return found;
        }

        int known() {
            int found = 0;
            for (int c = 0; c < cells; c++) {
                int alike = 0;
                int sound = soundOf(c);
                for (int other = 0; other < cells; other++) {
                    if (soundOf(other) == sound) {
                        alike++;
                    }
                }
                if (sound != NONE && alike == 1) {
                    found++;
                }
            }
            return found;
        }

        /** The stone is told by its heap in the first CELL. */
        int share(int cell, int stone) {
            long all = allIn(cell);
            int heap = cell * PER_CELL + stone;
            if (all == 0 || heap < 0 || heap >= HEAPS) {
                return 0;
            }
            return (int) (1000L * heaps[heap] / all);
        }

        long wordOf(int cell) {
            long word = 1;
            for (int i = 0; i < inHand && i < HANDFUL; i++) {
                word *= share(cell, hand[i]);
            }
            return word;
        }

        int richest(int size, int n) {
            int bits = 0;
            for (int i = 0; i < n; i++) {
                int best = NONE;
                for (int c = 0; c < cells; c++) {
                    boolean free = (bits >> c & 1) == 0;
                    if (free && (best == NONE || inCell(c, size, NONE) > inCell(best, size, NONE))) {
                        best = c;
                    }
                }
                if (best != NONE) {
                    bits |= 1 << best;
                }
            }
            return bits;
        }

        int partIn(int bits, int size) {
            long there = 0;
            long all = 0;
            for (int c = 0; c < cells; c++) {
                int here = inCell(c, size, NONE);
                all += here;
                there += (bits >> c & 1) == 1 ? here : 0;
            }
            return all == 0 ? 0 : (int) (1000 * there / all);
        }

        int sampled() {
            int found = 0;
            for (int c = 0; c < cells; c++) {
                for (int z = 0; z < sizes; z++) {
                    if (samples[c * SIZES + z] != NONE) {
                        found++;
                    }
                }
            }
            return found;
        }

        /** Whither may be the number of CELLS: sold. */
        void haul(int whence, int whither, int n) {
            int room = n;
            for (int z = sizes - 1; z >= 0; z--) {
                for (int k = 0; k < STUFFS; k++) {
                    int taken = Math.min(room, heaps[heapAt(whence, z, k)]);
                    room -= taken;
                    heaps[heapAt(whence, z, k)] -= taken;
                    if (whither < cells) {
                        heaps[heapAt(whither, z, k)] += taken;
                    } else {
                        totals[SOLD] += taken;
                    }
                }
            }
        }
    }

    /** A law as a row of steps for a stack: one that is 0 or more puts itself on it. */
    private static final class Law {
        static final int SIZE = 0;
        static final int STUFF = 1;
        static final int ABOVE = 2;
        static final int BELOW = 3;
        static final int HEIGHT = 4;
        static final int BEAT = 5;
        static final int FROM = 6;
        static final int CREST = 7;
        static final int CELL = 8;
        static final int NAMES = 9;

        static final int ADD = -10;
        static final int SUBTRACT = -11;
        static final int TIMES = -12;
        static final int CUT = -13;
        static final int LESS = -14;
        static final int MORE = -15;
        static final int SAME = -16;
        static final int AND = -17;
        static final int OR = -18;
        static final int NOT = -19;
        static final int UNLESS = -20;
        static final int SKIP = -21;

        final int[] steps = new int[TEXT];
        int length = 0;
        final int[] starts = new int[3];
        final int[] ends = new int[3];

        void clear() {
            length = 0;
            Arrays.fill(starts, 0);
            Arrays.fill(ends, 0);
        }

        /** No step takes more room than the bytes that told it, so all have room. */
        void emit(int step) {
            if (length < TEXT) {
                steps[length] = step;
                length++;
            }
        }

        /** A jump whose aim is not known yet: the place where that is to stand. */
        int emitJump(int step) {
            emit(step);
            emit(0);
            return length - 1;
        }

        void aim(int jump) {
            if (jump >= 0 && jump < TEXT) {
                steps[jump] = length;
            }
        }

        int value(int what, int[] names, int[] stack) {
            int end = ends[what];
            int at = starts[what];
            int top = 0;
            while (at < end && at < TEXT) {
                int step = steps[at];
                at++;
                if (step >= -NAMES) {
                    if (top < stack.length) {
                        stack[top] = step >= 0 ? step : names[-1 - step];
                        top++;
                    }
                } else if (step == SKIP || step == UNLESS) {
                    boolean jumps = step == SKIP;
                    if (step == UNLESS && top > 0) {
                        top--;
                        jumps = stack[top] == 0;
                    }
                    // jumps lead onward only, so the walk ends
                    int aim = at < TEXT ? steps[at] : end;
                    at = jumps && aim > at ? aim : at + 1;
                } else if (step == NOT) {
                    if (top > 0) {
                        stack[top - 1] = 1 - stack[top - 1];
                    }
                } else if (top > 1) {
                    top--;
                    stack[top - 1] = joined(step, stack[top - 1], stack[top]);
                }
            }
            return top > 0 ? stack[top - 1] : 0;
        }

        private static int joined(int step, int a, int b) {
            switch (step) {
                case ADD: return a + b;
                case SUBTRACT: return a - b;
                case TIMES: return a * b;
                case CUT: return b == 0 ? 0 : a / b;
                case LESS: return a < b ? 1 : 0;
                case MORE: return a > b ? 1 : 0;
                case SAME: return a == b ? 1 : 0;
                case AND: return a & b;
                default: return a | b;
            }
        }
    }

    private static final class Year {
        static final int WAVES = 20;

        final int[] heights = new int[WAVES];
        final int[] beats = new int[WAVES];
        final int[] froms = new int[WAVES];
        final int[] times = new int[WAVES];
        int waves = 0;

        void add(int height, int beat, int from, int often) {
            if (waves < WAVES) {
                heights[waves] = height;
                beats[waves] = beat;
                froms[waves] = from;
                times[waves] = often;
                waves++;
            }
        }
    }

    /** Cuts a text into numbers, words and signs, and keeps its first FAULT. */
    private static final class Tokens {
        static final int ALIEN = 1;
        static final int NO_SUCH_NUMBER = 2;
        static final int TOO_MANY = 3;
        static final int TWICE = 4;

        static final int END = 0;
        static final int NUMBER = 1;
        static final int WORD = 2;
        static final int SIGN = 3;
        static final int FAULTY = 4;

        // far above every number that may be told, far below where an int wraps
        static final int HUGE = 1000000;

        private byte[] text = new byte[0];
        private int length = 0;
        private int at = 0;
        private int kind = END;
        private int place = 0;
        private int number = 0;
        private int sign = 0;
        int fault = 0;
        int faultPlace = NONE;

        void open(byte[] bytes, int n) {
            text = bytes;
            length = Math.min(n, bytes.length);
            at = 0;
            fault = 0;
            faultPlace = NONE;
            kind = END;
            step();
        }

        void step() {
            if (fault != 0) {
                return;
            }
            while (at < length && text[at] == ' ') {
                at++;
            }
            place = at;
            if (at >= length) {
                kind = END;
            } else if (isDigit(text[at])) {
                kind = NUMBER;
                number = 0;
                while (at < length && isDigit(text[at])) {
                    number = Math.min(HUGE, 10 * number + text[at] - '0');
                    at++;
                }
            } else if (isLetter(text[at])) {
                kind = WORD;
                while (at < length && isLetter(text[at])) {
                    at++;
                }
            } else {
                kind = SIGN;
                sign = text[at];
                at++;
            }
        }

        private static boolean isDigit(int c) {
            return c >= '0' && c <= '9';
        }

        private static boolean isLetter(int c) {
            return c >= 'a' && c <= 'z';
        }

        void fail(int why) {
            if (fault == 0) {
                fault = why;
                faultPlace = place;
                kind = FAULTY;
            }
        }

        boolean hasMore() {
            return kind != END && kind != FAULTY;
        }

        boolean isSign(char c) {
            return kind == SIGN && sign == c;
        }

        boolean isWord(String word) {
            if (kind != WORD || at - place != word.length()) {
                return false;
            }
            for (int i = 0; i < word.length(); i++) {
                if (text[place + i] != word.charAt(i)) {
                    return false;
                }
            }
            return true;
        }

        void needSign(char c) {
            if (isSign(c)) {
                step();
            } else {
                fail(ALIEN);
            }
        }

        void needWord(String word) {
            if (isWord(word)) {
                step();
            } else {
                fail(ALIEN);
            }
        }

        /** Behind a FAULT the least, which nobody uses. */
        int needNumber(int low, int high) {
            int told = number;
            if (kind != NUMBER) {
                fail(ALIEN);
                return low;
            }
            if (told < low || told > high) {
                fail(NO_SUCH_NUMBER);
                return low;
            }
            step();
            return told;
        }

        boolean hasNumber() {
            return kind == NUMBER;
        }

        boolean isNumber(int n) {
            return kind == NUMBER && number == n;
        }
    }

    /** Reads the texts that are rows of clauses: a BEACH, a YEAR. */
    private static final class ClauseReader {
        private static final int CLAUSES = 60;

        private final Tokens tokens;
        private boolean toldCells = false;
        private boolean toldSizes = false;
        private boolean toldMore = false;

        ClauseReader(Tokens tokens) {
            this.tokens = tokens;
        }

        int readBeach(byte[] text, int n, Plan plan) {
            plan.clear();
            toldCells = false;
            toldSizes = false;
            toldMore = false;
            tokens.open(text, n);
            for (int i = 0; i <= CLAUSES && tokens.hasMore(); i++) {
                readClause(plan, i == CLAUSES);
                tokens.needSign(';');
            }
            return tokens.fault;
        }

        private void readClause(Plan plan, boolean full) {
            if (tokens.isWord("cells") || tokens.isWord("sizes")) {
                readExtent(plan, full);
            } else if (tokens.isWord("heap")) {
                readHeap(plan, full);
            } else if (tokens.isWord("crest")) {
                beginOther(full);
                int cell = tokens.needNumber(0, plan.cells - 1);
                plan.crests[cell] = tokens.needNumber(1, 60);
            } else if (tokens.isWord("wall")) {
                beginOther(full);
                int cell = tokens.needNumber(0, plan.cells - 2);
                plan.walls[cell] = tokens.needNumber(1, 16);
            } else if (tokens.isWord("spring")) {
                readSpring(plan, full);
            } else if (tokens.isWord("lorry")) {
                readLorry(plan, full);
            } else {
                tokens.fail(Tokens.ALIEN);
            }
        }

        private void readExtent(Plan plan, boolean full) {
            boolean ofCells = tokens.isWord("cells");
            if (full) {
                tokens.fail(Tokens.TOO_MANY);
            } else if (toldMore || (ofCells ? toldCells : toldSizes)) {
                tokens.fail(Tokens.TWICE);
            }
            tokens.step();
            if (ofCells) {
                toldCells = true;
                plan.cells = tokens.needNumber(2, CELLS);
            } else {
                toldSizes = true;
                plan.sizes = tokens.needNumber(2, SIZES);
            }
        }

        private void beginOther(boolean full) {
            if (full) {
                tokens.fail(Tokens.TOO_MANY);
            }
            toldMore = true;
            tokens.step();
        }

        private int needHeap(Plan plan) {
            int cell = tokens.needNumber(0, plan.cells - 1);
            int size = tokens.needNumber(0, plan.sizes - 1);
            int stuff = tokens.needNumber(0, STUFFS - 1);
            return Shore.heapAt(cell, size, stuff);
        }

        private void readHeap(Plan plan, boolean full) {
            beginOther(full);
            int heap = needHeap(plan);
            plan.heaps[heap] = tokens.needNumber(0, 9999);
        }

        private void readSpring(Plan plan, boolean full) {
            beginOther(full || plan.springCount == Plan.SPRINGS);
            int heap = needHeap(plan);
            plan.addSpring(heap, tokens.needNumber(1, 999));
        }

        private void readLorry(Plan plan, boolean full) {
            beginOther(full || plan.lorryCount == Plan.LORRIES);
            int from = tokens.needNumber(0, plan.cells - 1);
            if (tokens.isNumber(from)) {
                tokens.fail(Tokens.NO_SUCH_NUMBER);
            }
            int to = tokens.needNumber(0, plan.cells);
            int n = tokens.needNumber(1, 999);
            plan.addLorry(from, to, n, tokens.needNumber(1, 99));
        }

        int readYear(byte[] text, int n, Year year) {
            year.waves = 0;
            tokens.open(text, n);
            if (!tokens.hasMore()) {
                tokens.fail(Tokens.ALIEN);
            }
            for (int i = 0; i <= Year.WAVES && tokens.hasMore(); i++) {
                readWave(year, i == Year.WAVES);
                tokens.needSign(';');
            }
            return tokens.fault;
        }

        private void readWave(Year year, boolean full) {
            if (full && tokens.isWord("wave")) {
                tokens.fail(Tokens.TOO_MANY);
            }
            tokens.needWord("wave");
            int height = tokens.needNumber(1, 30);
            int beat = tokens.needNumber(1, 20);
            int from = tokens.needNumber(0, 1);
            int times = 1;
            if (tokens.isWord("times")) {
                tokens.step();
                times = tokens.needNumber(1, 9);
            }
            year.add(height, beat, from, times);
        }
    }

    /** Reads a LAW, and writes its steps as it goes. */
    private static final class LawReader {
        private static final int OPEN = 6;

        private final Tokens tokens;
        private Law law = new Law();
        private int open = 0;
        private int toldRules = 0;

        LawReader(Tokens tokens) {
            this.tokens = tokens;
        }

        int readLaw(byte[] text, int n, Law written) {
            law = written;
            law.clear();
            open = 0;
            toldRules = 0;
            tokens.open(text, n);
            // of three rules a fourth is one told twice, and so a FAULT
            for (int i = 0; i < 4 && tokens.hasMore(); i++) {
                readRule();
            }
            return tokens.fault;
        }

        private void readRule() {
            int what = ruleTold();
            if (what == NONE) {
                tokens.fail(Tokens.ALIEN);
                return;
            }
            if ((toldRules >> what & 1) == 1) {
                tokens.fail(Tokens.TWICE);
                return;
            }
            toldRules |= 1 << what;
            tokens.step();
            tokens.needSign('=');
            law.starts[what] = law.length;
            readValue();
            law.ends[what] = law.length;
            tokens.needSign(';');
        }

        private int ruleTold() {
            if (tokens.isWord("move")) {
                return MOVE;
            }
            if (tokens.isWord("wear")) {
                return WEAR;
            }
            return tokens.isWord("over") ? OVER : NONE;
        }

        /** What nests is held to the document's six, and so is the depth of the calls. */
        private boolean enters() {
            if (open >= OPEN) {
                tokens.fail(Tokens.TOO_MANY);
                return false;
            }
            open++;
            tokens.step();
            return true;
        }

        private void readValue() {
            if (tokens.isWord("if")) {
                readChoice();
                return;
            }
            readTerm();
            for (int i = 0; i < TEXT && (tokens.isSign('+') || tokens.isSign('-')); i++) {
                int step = tokens.isSign('+') ? Law.ADD : Law.SUBTRACT;
                tokens.step();
                readTerm();
                law.emit(step);
            }
        }

        private void readChoice() {
            if (!enters()) {
                return;
            }
            readCondition();
            tokens.needWord("then");
            int unless = law.emitJump(Law.UNLESS);
            readValue();
            tokens.needWord("else");
            int skip = law.emitJump(Law.SKIP);
            law.aim(unless);
            readValue();
            law.aim(skip);
            open--;
        }

        private void readTerm() {
            readFactor();
            for (int i = 0; i < TEXT && (tokens.isSign('*') || tokens.isSign('/')); i++) {
                int step = tokens.isSign('*') ? Law.TIMES : Law.CUT;
                tokens.step();
                readFactor();
                law.emit(step);
            }
        }

        private void readFactor() {
            int name = nameTold();
            if (tokens.hasNumber()) {
                law.emit(tokens.needNumber(0, 9999));
            } else if (name != NONE) {
                law.emit(-1 - name);
                tokens.step();
            } else if (tokens.isSign('(')) {
                if (enters()) {
                    readValue();
                    tokens.needSign(')');
                    open--;
                }
            } else {
                tokens.fail(Tokens.ALIEN);
            }
        }

        private int nameTold() {
            if (tokens.isWord("size")) {
                return Law.SIZE;
            }
            if (tokens.isWord("stuff")) {
                return Law.STUFF;
            }
            if (tokens.isWord("above")) {
                return Law.ABOVE;
            }
            if (tokens.isWord("below")) {
                return Law.BELOW;
            }
            if (tokens.isWord("height")) {
                return Law.HEIGHT;
            }
            if (tokens.isWord("beat")) {
                return Law.BEAT;
            }
            if (tokens.isWord("from")) {
                return Law.FROM;
            }
            if (tokens.isWord("crest")) {
                return Law.CREST;
            }
            return tokens.isWord("cell") ? Law.CELL : NONE;
        }

        private void readCondition() {
            readBoth();
            for (int i = 0; i < TEXT && tokens.isWord("or"); i++) {
                tokens.step();
                readBoth();
                law.emit(Law.OR);
            }
        }

        private void readBoth() {
            readTest();
            for (int i = 0; i < TEXT && tokens.isWord("and"); i++) {
                tokens.step();
                readTest();
                law.emit(Law.AND);
            }
        }

        private void readTest() {
            if (tokens.isWord("not")) {
                if (enters()) {
                    readTest();
                    law.emit(Law.NOT);
                    open--;
                }
            } else if (tokens.isSign('[')) {
                if (enters()) {
                    readCondition();
                    tokens.needSign(']');
                    open--;
                }
            } else {
                readValue();
                int step = comparisonTold();
                tokens.step();
                readValue();
                law.emit(step);
            }
        }

        private int comparisonTold() {
            if (tokens.isSign('<')) {
                return Law.LESS;
            }
            if (tokens.isSign('>')) {
                return Law.MORE;
            }
            if (!tokens.isSign('=')) {
                tokens.fail(Tokens.ALIEN);
            }
            return Law.SAME;
        }
    }

    /** Lets waves, springs and lorries work on a shore. */
    private static final class Sea {
        private final int[] names = new int[Law.NAMES];
        private final int[] stack = new int[64];
        private final int[] arriving = new int[HEAPS];
        private int shift = 0;
        private int caught = 0;
        private Plan plan;

        Sea(Plan plan) {
            this.plan = plan;
        }

        void follow(Plan told) {
            plan = told;
        }

        void setWave(int height, int beat, int from) {
            names[Law.HEIGHT] = height;
            names[Law.BEAT] = beat;
            names[Law.FROM] = from;
        }

        private void setWaveOf(Year year, int i) {
            setWave(year.heights[i], year.beats[i], year.froms[i]);
        }

        private void setPlace(int cell, int crest) {
            names[Law.CELL] = cell;
            names[Law.CREST] = crest;
        }

        private void setSize(int size, int lesser, int same, int all) {
            names[Law.SIZE] = size;
            names[Law.ABOVE] = all == 0 ? 0 : 16 * (all - lesser - same) / all;
            names[Law.BELOW] = all == 0 ? 0 : 16 * lesser / all;
        }

        /** What over says of a CELL whose crest is as told. */
        int reach(Law law, int cell, int crest) {
            setPlace(cell, crest);
            setSize(0, 0, 0, 0);
            names[Law.STUFF] = 0;
            return law.value(OVER, names, stack);
        }

        /** What move or wear says of the stones of a SIZE and STUFF where they are. */
        int ask(Shore shore, Law law, int what, int cell, int size, int stuff) {
            int lesser = 0;
            for (int z = 0; z < size; z++) {
                lesser += shore.inCell(cell, z, NONE);
            }
            setPlace(cell, shore.crests[cell]);
            setSize(size, lesser, shore.inCell(cell, size, NONE), shore.allIn(cell));
            names[Law.STUFF] = stuff;
            return law.value(what, names, stack);
        }

        /** An HOUR of the wave that was set. */
        int roll(Shore shore, Law law) {
            int moved = 0;
            for (int c = 0; c < shore.cells; c++) {
                moved += carryCell(shore, law, c);
            }
            for (int i = 0; i < shore.cells * PER_CELL; i++) {
                shore.heaps[i] += arriving[i];
                arriving[i] = 0;
            }
            for (int c = 0; c < shore.cells; c++) {
                if (reach(law, c, shore.crests[c]) > shore.crests[c]) {
                    goOver(shore, c);
                }
            }
            shore.hours++;
            flow(shore);
            drive(shore);
            return moved;
        }

        private int carryCell(Shore shore, Law law, int cell) {
            int all = shore.allIn(cell);
            int moved = 0;
            int lesser = 0;
            setPlace(cell, shore.crests[cell]);
            aimFrom(shore, cell);
            for (int z = 0; z < shore.sizes && all > 0; z++) {
                int heap = Shore.heapAt(cell, z, 0);
                int same = 0;
                for (int k = 0; k < STUFFS; k++) {
                    same += shore.heaps[heap + k];
                }
                setSize(z, lesser, same, all);
                for (int k = 0; k < STUFFS; k++) {
                    if (shore.heaps[heap + k] > 0) {
                        names[Law.STUFF] = k;
                        moved += carryHeap(shore, law, heap + k);
                    }
                }
                lesser += same;
            }
            return moved;
        }

        private void aimFrom(Shore shore, int cell) {
            boolean onward = names[Law.FROM] == 0;
            shift = 0;
            caught = 0;
            if (onward && cell < shore.cells - 1) {
                shift = PER_CELL;
                caught = shore.walls[cell];
            } else if (!onward && cell > 0) {
                shift = -PER_CELL;
                caught = shore.walls[cell - 1];
            }
        }

        private int carryHeap(Shore shore, Law law, int heap) {
            int moved = shore.heaps[heap] * held(law.value(MOVE, names, stack)) / 16;
            if (moved == 0) {
                return 0;
            }
            int worn = moved * held(law.value(WEAR, names, stack)) / 16;
            shore.heaps[heap] -= moved;
            arrive(heap, moved - worn);
            if (names[Law.SIZE] == 0) {
                shore.totals[SAND] += worn;
            } else {
                arrive(heap - STUFFS, worn);
            }
            return moved;
        }

        private static int held(int told) {
            return told < 0 ? 0 : told > 16 ? 16 : told;
        }

        /** Kept apart till the hour's stones have all set out: none is carried twice. */
        private void arrive(int heap, int n) {
            int whither = heap + shift;
            if (heap >= 0 && heap < HEAPS && whither >= 0 && whither < HEAPS) {
                int kept = n * caught / 16;
                arriving[heap] += kept;
                arriving[whither] += n - kept;
            }
        }

        private static int lowered(int crest) {
            return crest > 1 ? crest - 1 : 1;
        }

        private static void goOver(Shore shore, int cell) {
            shore.crests[cell] = lowered(shore.crests[cell]);
            shore.overs[cell]++;
            int first = cell * PER_CELL;
            for (int i = first; i < first + PER_CELL; i++) {
                int gone = shore.heaps[i] / 16;
                shore.heaps[i] -= gone;
                shore.totals[BEHIND] += gone;
            }
        }

        private void flow(Shore shore) {
            for (int i = 0; i < plan.springCount; i++) {
                int n = plan.springs[i * Plan.ROW + 1];
                shore.add(plan.springs[i * Plan.ROW], n);
                shore.totals[COME] += n;
            }
        }

        private void drive(Shore shore) {
            for (int i = 0; i < plan.lorryCount; i++) {
                int row = i * Plan.ROW;
                int every = plan.lorries[row + 3];
                if (every > 0 && shore.hours % every == 0) {
                    shore.haul(plan.lorries[row], plan.lorries[row + 1], plan.lorries[row + 2]);
                }
            }
        }

        int rollYear(Shore shore, Law law, Year year) {
            int begun = shore.hours;
            for (int i = 0; i < year.waves; i++) {
                setWaveOf(year, i);
                for (int t = 0; t < year.times[i] && shore.hours < HOURS; t++) {
                    roll(shore, law);
                }
            }
            return shore.hours - begun;
        }

        int rollLots(Shore shore, Law law, Year year, int n, int seed) {
            int begun = shore.hours;
            int drawn = seed;
            for (int i = 0; i < n && shore.hours < HOURS && year.waves > 0; i++) {
                drawn = drawn * 1103515245 + 12345;
                setWaveOf(year, (drawn >>> 16 & 32767) % year.waves);
                roll(shore, law);
            }
            return shore.hours - begun;
        }

        /** OVERS of one CELL in a YEAR: no stone has a part in them, so none is moved for it. */
        int oversIn(Shore shore, Law law, Year year, int cell, int crest) {
            int overs = 0;
            int top = crest;
            int hours = shore.hours;
            for (int i = 0; i < year.waves; i++) {
                setWaveOf(year, i);
                for (int t = 0; t < year.times[i] && hours < HOURS; t++) {
                    hours++;
                    if (reach(law, cell, top) > top) {
                        overs++;
                        top = lowered(top);
                    }
                }
            }
            return overs;
        }
    }

    /** What would come of a shore, tried on another that is not shown. */
    private static final class Trials {
        private final Sea sea;
        private final Shore shore = new Shore();
        private final int[] fewer = new int[CELLS];
        int best = NONE;
        int score = NONE;

        Trials(Sea sea) {
            this.sea = sea;
        }

        Shore behind(Shore live, Law law, Year year) {
            shore.copy(live);
            sea.rollYear(shore, law, year);
            return shore;
        }

        Shore behindWall(Shore live, Law law, Year year, int wall, int p) {
            shore.copy(live);
            buildWalls(1 << wall, p);
            sea.rollYear(shore, law, year);
            return shore;
        }

        private void buildWalls(int bits, int p) {
            for (int c = 0; c < shore.cells; c++) {
                if ((bits >> c & 1) == 1) {
                    shore.walls[c] = p;
                }
            }
        }

        void nearest(Shore live, Law[] laws, int count, Year year) {
            best = NONE;
            score = NONE;
            for (int i = 0; i < count && i < laws.length; i++) {
                shore.copy(live);
                sea.rollYear(shore, laws[i], year);
                int apart = apartFrom(live);
                if (best == NONE || apart < score) {
                    best = i;
                    score = apart;
                }
            }
        }

        private int apartFrom(Shore live) {
            int apart = 0;
            for (int c = 0; c < live.cells; c++) {
                for (int z = 0; z < live.sizes; z++) {
                    int told = live.samples[c * SIZES + z];
                    if (told != NONE) {
                        apart += Math.abs(told - shore.inCell(c, z, NONE));
                    }
                }
            }
            return apart;
        }

        void raise(Shore live, Law law, Year year, int k, int m) {
            int plain = 0;
            for (int c = 0; c < live.cells; c++) {
                int overs = sea.oversIn(live, law, year, c, live.crests[c]);
                plain += overs;
                fewer[c] = overs - sea.oversIn(live, law, year, c, live.crests[c] + m);
            }
            best = NONE;
            for (int bits = 1; bits < 1 << live.cells; bits++) {
                if (Integer.bitCount(bits) == k) {
                    int overs = plain - fewerBy(bits);
                    if (best == NONE || overs < score) {
                        best = bits;
                        score = overs;
                    }
                }
            }
        }

        private int fewerBy(int bits) {
            int all = 0;
            for (int c = 0; c < CELLS; c++) {
                all += (bits >> c & 1) == 1 ? fewer[c] : 0;
            }
            return all;
        }

        void wall(Shore live, Law law, Year year, int k, int p, int cell) {
            best = NONE;
            for (int bits = 1; bits < 1 << (live.cells - 1); bits++) {
                if (Integer.bitCount(bits) == k) {
                    shore.copy(live);
                    buildWalls(bits, p);
                    sea.rollYear(shore, law, year);
                    int here = shore.allIn(cell);
                    if (best == NONE || here > score) {
                        best = bits;
                        score = here;
                    }
                }
            }
        }

        void bring(Shore live, Law law, Year year, int n) {
            best = NONE;
            shore.copy(live);
            sea.rollYear(shore, law, year);
            score = shore.pairs(true);
            for (int whence = 0; whence < live.cells; whence++) {
                for (int whither = 0; whither < live.cells; whither++) {
                    if (whence != whither) {
                        shore.copy(live);
                        shore.haul(whence, whither, n);
                        sea.rollYear(shore, law, year);
                        int inOrder = shore.pairs(true);
                        if (inOrder > score) {
                            best = 100 * whence + whither;
                            score = inOrder;
                        }
                    }
                }
            }
        }

        int yearsTillFewer(Shore live, Law law, Year year, int cell, int n) {
            shore.copy(live);
            for (int gone = 0; gone <= 20; gone++) {
                if (shore.allIn(cell) < n) {
                    return gone;
                }
                if (shore.hours >= HOURS) {
                    return NONE;
                }
                sea.rollYear(shore, law, year);
            }
            return NONE;
        }

        int leastDry(Shore live, Law law, Year year) {
            for (int m = 0; m <= 100; m++) {
                boolean dry = true;
                for (int c = 0; c < live.cells && dry; c++) {
                    dry = sea.oversIn(live, law, year, c, live.crests[c] + m) == 0;
                }
                if (dry) {
                    return m;
                }
            }
            return NONE;
        }
    }

    /** What a hand in the dark makes of the stones that it holds. */
    private static final class Senses {
        private final long[] words = new long[CELLS];
        private int cells = 0;
        private long all = 0;

        void feelHand(Shore shore) {
            begin(shore.cells);
            for (int c = 0; c < cells; c++) {
                keep(c, shore.wordOf(c));
            }
        }

        /** As if the stone, told by its heap in the first CELL, were the whole HANDFUL. */
        void feelStone(Shore shore, int stone) {
            begin(shore.cells);
            for (int c = 0; c < cells; c++) {
                keep(c, shore.share(c, stone));
            }
        }

        private void begin(int n) {
            cells = n;
            all = 0;
        }

        private void keep(int cell, long word) {
            words[cell] = word;
            all += word;
        }

        int oddsOf(int cell) {
            return all == 0 ? 0 : (int) (1000 * words[cell] / all);
        }

        int guess() {
            int best = NONE;
            for (int c = 0; c < cells && all > 0; c++) {
                if (best == NONE || words[c] > words[best]) {
                    best = c;
                }
            }
            return best;
        }

        int near() {
            int best = NONE;
            for (int c = 0; c < cells && all > 0; c++) {
                if (best == NONE || farFrom(c) < farFrom(best)) {
                    best = c;
                }
            }
            return best;
        }

        private long farFrom(int cell) {
            long far = 0;
            for (int c = 0; c < cells; c++) {
                far += Math.abs(c - cell) * words[c];
            }
            return far;
        }

        int howFar() {
            return all == 0 ? NONE : (int) (1000 * farFrom(near()) / all);
        }
    }
}
