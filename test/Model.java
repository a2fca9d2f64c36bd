import java.util.ArrayList;
import java.util.HashSet;
import java.util.List;
import java.util.NoSuchElementException;
import java.util.Set;

/**
 * The document once more, told in its plainest form and without a thought for speed or room: what the class answers
 * is held against it. It shares no code with the class, and goes other ways where it can (texts become trees, what
 * comes behind a year is always rolled whole).
 */
final class Model {
    static final int NONE = -1;

    static final class Fault extends RuntimeException {
        private static final long serialVersionUID = 1L;

        final int kind;
        final int place;

        Fault(int kind, int place) {
            super(null, null, false, false); // no trace: many are thrown
            this.kind = kind;
            this.place = place;
        }
    }

    interface Value {
        int of(int[] names);
    }

    record Token(char kind, String text, int place) {
        boolean is(String other) {
            return kind != 'n' && text.equals(other);
        }
    }

    record Wave(int height, int beat, int from, int times) {
    }

    record Spring(int cell, int size, int stuff, int n) {
    }

    record Lorry(int from, int to, int n, int hours) {
    }

    static final class Law {
        final Value[] says = {n -> 0, n -> 0, n -> 0};
    }

    static final class Shore {
        int cells;
        int sizes;
        int[][][] stones = new int[0][][];
        int[] crest = new int[0];
        int[] wall = new int[0];
        int[] overs = new int[0];
        Integer[][] sample = new Integer[0][];
        List<int[]> hand = new ArrayList<>();
        long put;
        long come;
        long sand;
        long behind;
        long sold;
        long paintedEver;
        int hours;
        List<Spring> springs = new ArrayList<>();
        List<Lorry> lorries = new ArrayList<>();

        Shore copy() {
            Shore o = new Shore();
            o.cells = cells;
            o.sizes = sizes;
            o.stones = new int[cells][sizes][];
            o.sample = new Integer[cells][];
            for (int c = 0; c < cells; c++) {
                for (int z = 0; z < sizes; z++) {
                    o.stones[c][z] = stones[c][z].clone();
                }
                o.sample[c] = sample[c].clone();
            }
            o.crest = crest.clone();
            o.wall = wall.clone();
            o.overs = overs.clone();
            o.hand = new ArrayList<>(hand);
            o.put = put;
            o.come = come;
            o.sand = sand;
            o.behind = behind;
            o.sold = sold;
            o.paintedEver = paintedEver;
            o.hours = hours;
            o.springs = springs;
            o.lorries = lorries;
            return o;
        }

        int all(int cell) {
            int all = 0;
            for (int z = 0; z < sizes; z++) {
                all += ofSize(cell, z);
            }
            return all;
        }

        int ofSize(int cell, int size) {
            return stones[cell][size][0] + stones[cell][size][1] + stones[cell][size][2];
        }

        int allOvers() {
            int all = 0;
            for (int o : overs) {
                all += o;
            }
            return all;
        }
    }

    // ---- texts ----

    static List<Token> tokens(byte[] tape, int n) {
        List<Token> found = new ArrayList<>();
        int at = 0;
        while (at < n) {
            int c = tape[at] & 255;
            int from = at;
            char kind = kindOf(c);
            at++;
            if (kind == ' ') {
                continue;
            }
            while (kind != 's' && at < n && kindOf(tape[at] & 255) == kind) {
                at++;
            }
            StringBuilder text = new StringBuilder();
            for (int i = from; i < at; i++) {
                text.append((char) (tape[i] & 255));
            }
            found.add(new Token(kind, text.toString(), from));
        }
        found.add(new Token('e', "", n));
        return found;
    }

    static char kindOf(int c) {
        return c == ' ' ? ' ' : c >= '0' && c <= '9' ? 'n' : c >= 'a' && c <= 'z' ? 'w' : 's';
    }

    static final class Parser {
        final List<Token> tokens;
        int i = 0;
        int open = 0;

        Parser(byte[] tape, int n) {
            tokens = tokens(tape, n);
        }

        Token now() {
            return tokens.get(i);
        }

        boolean ended() {
            return now().kind() == 'e';
        }

        RuntimeException fault(int kind) {
            return new Fault(kind, now().place());
        }

        boolean took(String text) {
            if (now().is(text)) {
                i++;
                return true;
            }
            return false;
        }

        void need(String text) {
            if (!took(text)) {
                throw fault(1);
            }
        }

        int number(int low, int high) {
            Token t = now();
            if (t.kind() != 'n') {
                throw fault(1);
            }
            String digits = t.text().replaceFirst("^0+", "");
            if (digits.length() > 6) {
                throw fault(2);
            }
            int n = digits.isEmpty() ? 0 : Integer.parseInt(digits);
            if (n < low || n > high) {
                throw fault(2);
            }
            i++;
            return n;
        }

        Shore beach() {
            Shore s = new Shore();
            s.cells = 6;
            s.sizes = 4;
            int[][][] heaps = new int[12][6][3];
            int[] crest = new int[12];
            int[] wall = new int[12];
            java.util.Arrays.fill(crest, 20);
            Set<String> once = new HashSet<>();
            boolean more = false;
            int clauses = 0;
            while (!ended()) {
                String word = now().kind() == 'w' ? now().text() : "?";
                if (!List.of("cells", "sizes", "heap", "crest", "wall", "spring", "lorry").contains(word)) {
                    throw fault(1);
                }
                clauses++;
                if (clauses > 60 || word.equals("spring") && s.springs.size() == 8 || word.equals("lorry") && s.lorries.size() == 4) {
                    throw fault(3);
                }
                boolean extent = word.equals("cells") || word.equals("sizes");
                if (extent && (more || !once.add(word))) {
                    throw fault(4);
                }
                more |= !extent;
                i++;
                switch (word) {
                    case "cells" -> s.cells = number(2, 12);
                    case "sizes" -> s.sizes = number(2, 6);
                    case "heap" -> {
                        int c = number(0, s.cells - 1);
                        int z = number(0, s.sizes - 1);
                        int k = number(0, 2);
                        heaps[c][z][k] = number(0, 9999);
                    }
                    case "crest" -> {
                        int c = number(0, s.cells - 1);
                        crest[c] = number(1, 60);
                    }
                    case "wall" -> {
                        int c = number(0, s.cells - 2);
                        wall[c] = number(1, 16);
                    }
                    case "spring" -> {
                        int c = number(0, s.cells - 1);
                        int z = number(0, s.sizes - 1);
                        int k = number(0, 2);
                        s.springs.add(new Spring(c, z, k, number(1, 999)));
                    }
                    default -> {
                        int c = number(0, s.cells - 1);
                        int place = i;
                        int e = number(0, s.cells);
                        if (c == e) {
                            i = place;
                            throw fault(2);
                        }
                        int n = number(1, 999);
                        s.lorries.add(new Lorry(c, e, n, number(1, 99)));
                    }
                }
                need(";");
            }
            s.stones = new int[s.cells][s.sizes][3];
            s.sample = new Integer[s.cells][s.sizes];
            s.crest = new int[s.cells];
            s.wall = new int[s.cells];
            s.overs = new int[s.cells];
            for (int c = 0; c < s.cells; c++) {
                s.crest[c] = crest[c];
                s.wall[c] = wall[c];
                for (int z = 0; z < s.sizes; z++) {
                    for (int k = 0; k < 3; k++) {
                        s.stones[c][z][k] = heaps[c][z][k];
                        s.put += heaps[c][z][k];
                        s.paintedEver += k == 2 ? heaps[c][z][k] : 0;
                    }
                }
            }
            return s;
        }

        List<Wave> year() {
            List<Wave> waves = new ArrayList<>();
            do {
                if (!now().is("wave")) {
                    throw fault(1);
                }
                if (waves.size() == 20) {
                    throw fault(3);
                }
                i++;
                int h = number(1, 30);
                int b = number(1, 20);
                int f = number(0, 1);
                int times = took("times") ? number(1, 9) : 1;
                need(";");
                waves.add(new Wave(h, b, f, times));
            } while (!ended());
            return waves;
        }

        Law law() {
            Law law = new Law();
            List<String> words = List.of("move", "wear", "over");
            Set<String> once = new HashSet<>();
            while (!ended()) {
                int what = now().kind() == 'w' ? words.indexOf(now().text()) : -1;
                if (what < 0) {
                    throw fault(1);
                }
                if (!once.add(now().text())) {
                    throw fault(4);
                }
                i++;
                need("=");
                law.says[what] = value();
                need(";");
            }
            return law;
        }

        void open() {
            if (open == 6) {
                throw fault(3);
            }
            open++;
            i++;
        }

        Value value() {
            if (now().is("if")) {
                open();
                Value c = condition();
                need("then");
                Value a = value();
                need("else");
                Value b = value();
                open--;
                return n -> c.of(n) == 1 ? a.of(n) : b.of(n);
            }
            Value sum = term();
            while (true) {
                Value left = sum;
                if (took("+")) {
                    Value right = term();
                    sum = n -> left.of(n) + right.of(n);
                } else if (took("-")) {
                    Value right = term();
                    sum = n -> left.of(n) - right.of(n);
                } else {
                    return sum;
                }
            }
        }

        Value term() {
            Value product = unit();
            while (true) {
                Value left = product;
                if (took("*")) {
                    Value right = unit();
                    product = n -> left.of(n) * right.of(n);
                } else if (took("/")) {
                    Value right = unit();
                    product = n -> right.of(n) == 0 ? 0 : left.of(n) / right.of(n);
                } else {
                    return product;
                }
            }
        }

        Value unit() {
            List<String> names = List.of("size", "stuff", "above", "below", "height", "beat", "from", "crest", "cell");
            Token t = now();
            if (t.kind() == 'n') {
                int n = number(0, 9999);
                return all -> n;
            }
            if (t.kind() == 'w' && names.contains(t.text())) {
                i++;
                int at = names.indexOf(t.text());
                return n -> n[at];
            }
            if (t.is("(")) {
                open();
                Value inner = value();
                need(")");
                open--;
                return inner;
            }
            throw fault(1);
        }

        Value condition() {
            Value any = both();
            while (took("or")) {
                Value left = any;
                Value right = both();
                any = n -> left.of(n) == 1 || right.of(n) == 1 ? 1 : 0;
            }
            return any;
        }

        Value both() {
            Value all = test();
            while (took("and")) {
                Value left = all;
                Value right = test();
                all = n -> left.of(n) == 1 && right.of(n) == 1 ? 1 : 0;
            }
            return all;
        }

        Value test() {
            if (now().is("not")) {
                open();
                Value inner = test();
                open--;
                return n -> inner.of(n) == 1 ? 0 : 1;
            }
            if (now().is("[")) {
                open();
                Value inner = condition();
                need("]");
                open--;
                return inner;
            }
            Value a = value();
            if (took("<")) {
                Value b = value();
                return n -> a.of(n) < b.of(n) ? 1 : 0;
            }
            if (took(">")) {
                Value b = value();
                return n -> a.of(n) > b.of(n) ? 1 : 0;
            }
            need("=");
            Value b = value();
            return n -> a.of(n) == b.of(n) ? 1 : 0;
        }
    }

    // ---- state ----

    byte[] tape = new byte[0];
    int faultPlace = NONE;
    Shore live = new Shore();
    final List<Law> laws = new ArrayList<>();
    final List<List<Wave>> years = new ArrayList<>();
    List<Shore> images = new ArrayList<>();
    final int[] refused = new int[4];

    private void need(int which, boolean right) {
        if (right) {
            return;
        }
        refused[which]++;
        switch (which) {
            case 0: throw new IndexOutOfBoundsException();
            case 1: throw new NoSuchElementException();
            case 2: throw new IllegalArgumentException();
            default: throw new IllegalStateException();
        }
    }

    private static boolean in(int n, int low, int high) {
        return low <= n && n <= high;
    }

    private boolean cellIs(int c) {
        return in(c, 0, live.cells - 1);
    }

    private boolean sizeIs(int z) {
        return in(z, 0, live.sizes - 1);
    }

    private boolean lawIs(int l) {
        return in(l, 0, laws.size() - 1);
    }

    private boolean yearIs(int y) {
        return in(y, 0, years.size() - 1);
    }

    private boolean goesOn() {
        return live.cells > 0 && live.hours < 600;
    }

    public int feed(int a, int b, int c, int d, int e) {
        if (tape.length + 20 > 600) {
            return NONE;
        }
        java.nio.ByteBuffer more = java.nio.ByteBuffer.allocate(tape.length + 20);
        more.put(tape).putInt(a).putInt(b).putInt(c).putInt(d).putInt(e);
        tape = more.array();
        return tape.length;
    }

    private byte[] takeTape() {
        byte[] was = tape;
        tape = new byte[0];
        faultPlace = NONE;
        return was;
    }

    public int beach(int n) {
        need(2, in(n, 0, tape.length));
        byte[] text = takeTape();
        try {
            live = new Parser(text, n).beach();
        } catch (Fault f) {
            faultPlace = f.place;
            return f.kind - 10;
        }
        images = new ArrayList<>();
        return live.cells;
    }

    public int law(int n) {
        need(2, in(n, 0, tape.length));
        byte[] text = takeTape();
        if (laws.size() == 4) {
            return -1;
        }
        try {
            laws.add(new Parser(text, n).law());
        } catch (Fault f) {
            faultPlace = f.place;
            return f.kind - 10;
        }
        return laws.size() - 1;
    }

    public int year(int n) {
        need(2, in(n, 0, tape.length));
        byte[] text = takeTape();
        if (years.size() == 4) {
            return -1;
        }
        try {
            years.add(new Parser(text, n).year());
        } catch (Fault f) {
            faultPlace = f.place;
            return f.kind - 10;
        }
        return years.size() - 1;
    }

    public int fault() {
        return faultPlace;
    }

    public int told(int what) {
        need(2, in(what, 0, 6));
        int[] all = {live.cells, live.sizes, live.springs.size(), live.lorries.size(), laws.size(), years.size(), live.hours};
        return all[what];
    }

    public int stones(int cell, int size, int stuff) {
        need(0, cell == NONE || cellIs(cell));
        need(2, (size == NONE || sizeIs(size)) && in(stuff, NONE, 2));
        int all = 0;
        for (int c = 0; c < live.cells; c++) {
            for (int z = 0; z < live.sizes; z++) {
                for (int k = 0; k < 3; k++) {
                    boolean asked = (cell == NONE || cell == c) && (size == NONE || size == z) && (stuff == NONE || stuff == k);
                    all += asked ? live.stones[c][z][k] : 0;
                }
            }
        }
        return all;
    }

    public int cell(int cell, int what) {
        need(0, cellIs(cell));
        need(2, in(what, 0, 2));
        return what == 0 ? live.crest[cell] : what == 1 ? live.wall[cell] : live.overs[cell];
    }

    public int put(int cell, int size, int stuff, int n) {
        need(0, cellIs(cell));
        need(2, sizeIs(size) && in(stuff, 0, 2) && in(n, 1, 999));
        live.put += n;
        live.paintedEver += stuff == 2 ? n : 0;
        live.stones[cell][size][stuff] += n;
        return live.stones[cell][size][stuff];
    }

    private static boolean waveIs(int height, int beat, int from) {
        return in(height, 1, 30) && in(beat, 1, 20) && in(from, 0, 1);
    }

    private static int lawSays(Shore s, Law law, int what, int c, int z, int k, Wave w) {
        long above = 0;
        long below = 0;
        long all = s.all(c);
        for (int other = 0; other < s.sizes; other++) {
            above += other > z ? s.ofSize(c, other) : 0;
            below += other < z ? s.ofSize(c, other) : 0;
        }
        int[] names = {z, k, 0, 0, w.height, w.beat, w.from, s.crest[c], c};
        if (all > 0) {
            names[2] = (int) (16 * above / all);
            names[3] = (int) (16 * below / all);
        }
        if (what == 2) {
            names[0] = names[1] = names[2] = names[3] = 0;
        }
        return law.says[what].of(names);
    }

    public int says(int law, int what, int cell, int size, int stuff, int height, int beat, int from) {
        need(0, cellIs(cell));
        need(1, lawIs(law));
        need(2, in(what, 0, 2) && sizeIs(size) && in(stuff, 0, 2) && waveIs(height, beat, from));
        return lawSays(live, laws.get(law), what, cell, size, stuff, new Wave(height, beat, from, 1));
    }

    private static int held(int n) {
        return Math.max(0, Math.min(16, n));
    }

    private static int hour(Shore s, Law law, Wave w) {
        int moved = 0;
        Shore was = s.copy();
        for (int c = 0; c < s.cells; c++) {
            int to = w.from == 0 ? c + 1 : c - 1;
            boolean goes = to >= 0 && to < s.cells;
            int wall = goes ? s.wall[Math.min(c, to)] : 0;
            for (int z = 0; z < s.sizes; z++) {
                for (int k = 0; k < 3; k++) {
                    int go = was.stones[c][z][k] * held(lawSays(was, law, 0, c, z, k, w)) / 16;
                    int worn = go * held(lawSays(was, law, 1, c, z, k, w)) / 16;
                    moved += go;
                    s.stones[c][z][k] -= go;
                    int[] parts = {go - worn, worn};
                    for (int part = 0; part < 2; part++) {
                        int size = z - part;
                        if (size < 0) {
                            s.sand += worn;
                        } else if (goes) {
                            int kept = parts[part] * wall / 16;
                            s.stones[c][size][k] += kept;
                            s.stones[to][size][k] += parts[part] - kept;
                        } else {
                            s.stones[c][size][k] += parts[part];
                        }
                    }
                }
            }
        }
        for (int c = 0; c < s.cells; c++) {
            if (lawSays(s, law, 2, c, 0, 0, w) > s.crest[c]) {
                s.crest[c] = Math.max(1, s.crest[c] - 1);
                s.overs[c]++;
                for (int[] row : s.stones[c]) {
                    for (int k = 0; k < 3; k++) {
                        int gone = row[k] / 16;
                        row[k] -= gone;
                        s.behind += gone;
                    }
                }
            }
        }
        s.hours++;
        for (Spring p : s.springs) {
            s.stones[p.cell][p.size][p.stuff] += p.n;
            s.come += p.n;
            s.paintedEver += p.stuff == 2 ? p.n : 0;
        }
        for (Lorry l : s.lorries) {
            if (s.hours % l.hours == 0) {
                haul(s, l);
            }
        }
        return moved;
    }

    private static void haul(Shore s, Lorry l) {
        for (int stone = 0; stone < l.n; stone++) {
            boolean found = false;
            for (int z = s.sizes - 1; z >= 0 && !found; z--) {
                for (int k = 0; k < 3 && !found; k++) {
                    if (s.stones[l.from][z][k] > 0) {
                        found = true;
                        s.stones[l.from][z][k]--;
                        if (l.to == s.cells) {
                            s.sold++;
                        } else {
                            s.stones[l.to][z][k]++;
                        }
                    }
                }
            }
        }
    }

    private static int rollYear(Shore s, Law law, List<Wave> year) {
        int hours = 0;
        for (Wave w : year) {
            for (int t = 0; t < w.times; t++) {
                if (s.hours < 600) {
                    hour(s, law, w);
                    hours++;
                }
            }
        }
        return hours;
    }

    public int wave(int law, int height, int beat, int from) {
        need(1, lawIs(law));
        need(2, waveIs(height, beat, from));
        need(3, goesOn());
        return hour(live, laws.get(law), new Wave(height, beat, from, 1));
    }

    public int run(int law, int year) {
        need(1, lawIs(law) && yearIs(year));
        need(3, goesOn());
        return rollYear(live, laws.get(law), years.get(year));
    }

    public int lots(int law, int year, int n, int seed) {
        need(1, lawIs(law) && yearIs(year));
        need(2, in(n, 1, 200));
        need(3, goesOn());
        List<Wave> waves = years.get(year);
        long s = seed & 0xffffffffL;
        int gone = 0;
        while (gone < n && live.hours < 600) {
            s = (s * 1103515245L + 12345L) & 0xffffffffL;
            hour(live, laws.get(law), waves.get((int) (s / 65536 % 32768 % waves.size())));
            gone++;
        }
        return gone;
    }

    private static int meanOf(Shore s, int cell) {
        long all = 0;
        long weighed = 0;
        for (int z = 0; z < s.sizes; z++) {
            all += s.ofSize(cell, z);
            weighed += 1000L * z * s.ofSize(cell, z);
        }
        return all == 0 ? NONE : (int) (weighed / all);
    }

    public int mean(int cell) {
        need(0, cellIs(cell));
        return meanOf(live, cell);
    }

    private static int inOrder(Shore s, boolean any) {
        int found = 0;
        for (int a = 0; a < s.cells; a++) {
            for (int b = a + 1; b < s.cells; b++) {
                if (s.all(a) > 0 && s.all(b) > 0 && (any || meanOf(s, b) >= meanOf(s, a))) {
                    found++;
                }
            }
        }
        return found;
    }

    private List<Integer> horns() {
        List<Integer> found = new ArrayList<>();
        for (int c = 0; c < live.cells; c++) {
            boolean horn = true;
            for (int other : new int[]{c - 1, c + 1}) {
                horn &= !cellIs(other) || live.all(c) > live.all(other);
            }
            if (horn) {
                found.add(c);
            }
        }
        return found;
    }

    private int known() {
        int found = 0;
        for (int c = 0; c < live.cells; c++) {
            boolean known = live.all(c) > 0;
            for (int other = 0; other < live.cells; other++) {
                if (other != c && live.all(other) > 0 && live.all(c) > 0) {
                    known &= meanOf(live, c) / 100 != meanOf(live, other) / 100;
                }
            }
            found += known ? 1 : 0;
        }
        return found;
    }

    public int order(int what) {
        need(2, in(what, 0, 3));
        return what < 2 ? inOrder(live, what == 1) : what == 2 ? horns().size() : known();
    }

    public int horn(int i) {
        List<Integer> all = horns();
        return in(i, 0, all.size() - 1) ? all.get(i) : NONE;
    }

    public int sound(int cell) {
        need(0, cellIs(cell));
        return live.all(cell) == 0 ? NONE : 60 - meanOf(live, cell) / 100;
    }

    public int take(int size, int stuff) {
        need(2, sizeIs(size) && in(stuff, 0, 2));
        if (live.hand.size() == 4) {
            return -1;
        }
        live.hand.add(new int[]{size, stuff});
        return live.hand.size();
    }

    public int drop() {
        int were = live.hand.size();
        live.hand.clear();
        return were;
    }

    private long wordOf(int cell, List<int[]> hand) {
        long word = 1;
        for (int[] stone : hand) {
            word *= live.all(cell) == 0 ? 0 : 1000L * live.stones[cell][stone[0]][stone[1]] / live.all(cell);
        }
        return word;
    }

    public long word(int cell) {
        need(0, cellIs(cell));
        return wordOf(cell, live.hand);
    }

    private long allWords(List<int[]> hand) {
        long all = 0;
        for (int c = 0; c < live.cells; c++) {
            all += wordOf(c, hand);
        }
        return all;
    }

    public int odds(int cell) {
        need(0, cellIs(cell));
        long all = allWords(live.hand);
        return all == 0 ? 0 : (int) (1000 * wordOf(cell, live.hand) / all);
    }

    private long farFrom(int cell, List<int[]> hand) {
        long far = 0;
        for (int c = 0; c < live.cells; c++) {
            far += wordOf(c, hand) * (c < cell ? cell - c : c - cell);
        }
        return far;
    }

    private int whereIs(int what, List<int[]> hand) {
        if (allWords(hand) == 0) {
            return NONE;
        }
        int guess = 0;
        int near = 0;
        for (int c = 1; c < live.cells; c++) {
            guess = wordOf(c, hand) > wordOf(guess, hand) ? c : guess;
            near = farFrom(c, hand) < farFrom(near, hand) ? c : near;
        }
        return what == 0 ? guess : what == 1 ? near : (int) (1000 * farFrom(near, hand) / allWords(hand));
    }

    public int where(int what) {
        need(2, in(what, 0, 2));
        return whereIs(what, live.hand);
    }

    public int found(int size, int s) {
        need(2, sizeIs(size) && in(s, 1, 16));
        int all = 0;
        for (int c = 0; c < live.cells; c++) {
            all += live.stones[c][size][2] * s / 16;
        }
        return all;
    }

    public int miles(int size) {
        need(2, sizeIs(size));
        long all = 0;
        long far = 0;
        for (int c = 0; c < live.cells; c++) {
            all += live.stones[c][size][2];
            far += 1000L * c * live.stones[c][size][2];
        }
        return all == 0 ? NONE : (int) (far / all);
    }

    public int lost() {
        long here = 0;
        for (int c = 0; c < live.cells; c++) {
            for (int z = 0; z < live.sizes; z++) {
                here += live.stones[c][z][2];
            }
        }
        return (int) (live.paintedEver - here);
    }

    public int look(int size, int n, int what) {
        need(2, sizeIs(size) && in(n, 1, live.cells) && in(what, 0, 1));
        List<Integer> cells = new ArrayList<>();
        for (int c = 0; c < live.cells; c++) {
            cells.add(c);
        }
        cells.sort((a, b) -> Integer.compare(live.ofSize(b, size), live.ofSize(a, size)));
        int bits = 0;
        long all = 0;
        long there = 0;
        for (int i = 0; i < live.cells; i++) {
            int here = live.ofSize(cells.get(i), size);
            all += here;
            if (i < n) {
                bits += 1 << cells.get(i);
                there += here;
            }
        }
        return what == 0 ? bits : all == 0 ? 0 : (int) (1000 * there / all);
    }

    // ---- what comes behind a year ----

    private Shore behind(Shore from, int law, int year) {
        Shore s = from.copy();
        rollYear(s, laws.get(law), years.get(year));
        return s;
    }

    public int left(int law, int year, int cell, int size) {
        need(0, cellIs(cell));
        need(1, lawIs(law) && yearIs(year));
        need(2, sizeIs(size));
        need(3, goesOn());
        return behind(live, law, year).ofSize(cell, size);
    }

    public int sample(int cell, int size, int n) {
        need(0, cellIs(cell));
        need(2, sizeIs(size) && in(n, NONE, 999999));
        Integer was = live.sample[cell][size];
        live.sample[cell][size] = n == NONE ? null : Integer.valueOf(n);
        return was == null ? NONE : was;
    }

    public int which(int year, int what) {
        need(1, yearIs(year));
        need(2, in(what, 0, 1));
        need(3, goesOn());
        int best = NONE;
        int least = NONE;
        for (int l = laws.size() - 1; l >= 0; l--) {
            Shore s = behind(live, l, year);
            int apart = 0;
            for (int c = 0; c < s.cells; c++) {
                for (int z = 0; z < s.sizes; z++) {
                    Integer told = live.sample[c][z];
                    apart += told == null ? 0 : Math.abs(told - s.ofSize(c, z));
                }
            }
            if (best == NONE || apart <= least) {
                best = l;
                least = apart;
            }
        }
        return what == 0 ? best : least;
    }

    public int cost(int law, int year, int wall, int p, int cell) {
        need(0, cellIs(cell) && in(wall, 0, live.cells - 2));
        need(1, lawIs(law) && yearIs(year));
        need(2, in(p, 0, 16));
        need(3, goesOn());
        Shore s = live.copy();
        s.wall[wall] = p;
        return behind(live, law, year).all(cell) - behind(s, law, year).all(cell);
    }

    public int raised(int law, int year, int k, int m, int what) {
        need(1, lawIs(law) && yearIs(year));
        need(2, in(k, 1, Math.min(3, live.cells)) && in(m, 1, 20) && in(what, 0, 1));
        need(3, goesOn());
        int best = NONE;
        int fewest = NONE;
        for (int bits = (1 << live.cells) - 1; bits > 0; bits--) {
            if (Integer.bitCount(bits) != k) {
                continue;
            }
            Shore s = live.copy();
            for (int c = 0; c < s.cells; c++) {
                s.crest[c] += (bits & 1 << c) != 0 ? m : 0;
            }
            int overs = behind(s, law, year).allOvers() - live.allOvers();
            if (best == NONE || overs <= fewest) {
                best = bits;
                fewest = overs;
            }
        }
        return what == 0 ? best : fewest;
    }

    public int brought(int law, int year, int n, int what) {
        need(1, lawIs(law) && yearIs(year));
        need(2, in(n, 1, 999) && in(what, 0, 1));
        need(3, goesOn());
        int best = NONE;
        int most = inOrder(behind(live, law, year), false);
        for (int from = 0; from < live.cells; from++) {
            for (int to = 0; to < live.cells; to++) {
                if (from == to) {
                    continue;
                }
                Shore s = live.copy();
                haul(s, new Lorry(from, to, n, 1));
                int found = inOrder(behind(s, law, year), false);
                if (found > most) {
                    best = 100 * from + to;
                    most = found;
                }
            }
        }
        return what == 0 ? best : most;
    }

    public int sums(int what) {
        need(2, in(what, 0, 4));
        long[] all = {live.put, live.come, live.sand, live.behind, live.sold};
        return (int) all[what];
    }

    public int last(int law, int year, int cell, int n) {
        need(0, cellIs(cell));
        need(1, lawIs(law) && yearIs(year));
        need(2, in(n, 1, 999999));
        need(3, goesOn());
        Shore s = live.copy();
        int gone = 0;
        while (s.all(cell) >= n) {
            if (gone == 20 || s.hours == 600) {
                return NONE;
            }
            rollYear(s, laws.get(law), years.get(year));
            gone++;
        }
        return gone;
    }

    public int like(int cell, int other) {
        need(0, cellIs(cell) && cellIs(other));
        int apart = 0;
        for (int z = 0; z < live.sizes; z++) {
            for (int k = 0; k < 3; k++) {
                List<int[]> stone = List.of(new int[]{z, k});
                apart += Math.abs(wordOf(cell, stone) - wordOf(other, stone));
            }
        }
        return apart;
    }

    public int walls(int law, int year, int k, int p, int cell, int what) {
        need(0, cellIs(cell));
        need(1, lawIs(law) && yearIs(year));
        need(2, in(k, 1, Math.min(3, live.cells - 1)) && in(p, 1, 16) && in(what, 0, 1));
        need(3, goesOn());
        int best = NONE;
        int most = NONE;
        for (int bits = (1 << (live.cells - 1)) - 1; bits > 0; bits--) {
            if (Integer.bitCount(bits) != k) {
                continue;
            }
            Shore s = live.copy();
            for (int c = 0; c < s.cells; c++) {
                s.wall[c] = (bits & 1 << c) != 0 ? p : s.wall[c];
            }
            int here = behind(s, law, year).all(cell);
            if (best == NONE || here >= most) {
                best = bits;
                most = here;
            }
        }
        return what == 0 ? best : most;
    }

    public int high(int law, int year) {
        need(1, lawIs(law) && yearIs(year));
        need(3, goesOn());
        for (int m = 0; m <= 100; m++) {
            Shore s = live.copy();
            for (int c = 0; c < s.cells; c++) {
                s.crest[c] += m;
            }
            if (behind(s, law, year).allOvers() == live.allOvers()) {
                return m;
            }
        }
        return NONE;
    }

    public int one(int what) {
        need(2, in(what, 0, 1));
        int best = NONE;
        int least = NONE;
        for (int z = live.sizes - 1; z >= 0; z--) {
            for (int k = 2; k >= 0; k--) {
                List<int[]> stone = List.of(new int[]{z, k});
                if (allWords(stone) > 0 && (best == NONE || whereIs(2, stone) <= least)) {
                    best = 10 * z + k;
                    least = whereIs(2, stone);
                }
            }
        }
        return what == 0 ? best : least;
    }

    public int seen(int n, int s) {
        need(2, in(n, 1, 999) && in(s, 1, 16));
        int many = 0;
        while (many * s / 16 < n) {
            many++;
        }
        return many;
    }

    public int image() {
        if (images.size() == 3) {
            return -1;
        }
        images.add(live.copy());
        return images.size();
    }

    public int restore() {
        if (images.isEmpty()) {
            return -1;
        }
        live = images.remove(images.size() - 1);
        return images.size();
    }

    public int status(int what) {
        return in(what, 0, 3) ? refused[what] : NONE;
    }

    public int count(int what) {
        int told = 0;
        for (int c = 0; c < live.cells; c++) {
            for (Integer n : live.sample[c]) {
                told += n == null ? 0 : 1;
            }
        }
        int[] all = {live.hand.size(), images.size(), tape.length, told};
        return in(what, 0, 3) ? all[what] : NONE;
    }
}
