import java.lang.reflect.InvocationTargetException;
import java.lang.reflect.Method;
import java.util.ArrayList;
import java.util.Arrays;
import java.util.HashMap;
import java.util.List;
import java.util.Map;
import java.util.NoSuchElementException;

/**
 * Every call with each of its arguments at both its ends and one step beyond, all together: which exception it throws,
 * that the one that stands first goes first, that it is counted, and that nothing else is changed by it.
 */
public final class RefusalsTest {
    private static final int RIGHT = 4;
    private static final String[] NAMES = {"IndexOutOfBoundsException", "NoSuchElementException", "IllegalArgumentException", "IllegalStateException", "nothing"};
    private static final Class<?>[] CLASSES = {IndexOutOfBoundsException.class, NoSuchElementException.class, IllegalArgumentException.class, IllegalStateException.class};

    // c CELL, C CELL or NONE, w a wall's CELL, l LAW, y YEAR, z SIZE, Z SIZE or NONE, k STUFF, K STUFF or NONE, t bytes of the
    // TAPE, n CELLS in number, r CELLS of a set, s walls of a set, x whatever; else the least and the greatest.
    // ! changes something, ? needs a BEACH and an HOUR.
    private static final String[] CALLS = {
        "feed! x x x x x", "beach! t", "law! t", "year! t", "fault", "told 0:6", "stones C Z K", "cell c 0:2", "put! c z k 1:999",
        "says l 0:2 c z k 1:30 1:20 0:1", "wave!? l 1:30 1:20 0:1", "run!? l y", "lots!? l y 1:200 x", "mean c", "order 0:3", "horn x", "sound c",
        "take! z k", "drop!", "word c", "odds c", "where 0:2", "found z 1:16", "miles z", "lost", "look z n 0:1", "left? l y c z",
        "sample! c z -1:999999", "which? y 0:1", "cost? l y w 0:16 c", "raised? l y r 1:20 0:1", "brought? l y 1:999 0:1", "sums 0:4",
        "last? l y c 1:999999", "like c c", "walls? l y s 1:16 c 0:1", "high? l y", "one 0:1", "seen 1:999 1:16", "image!", "restore!", "status x", "count x"};

    private static final Map<String, Method> METHODS = new HashMap<>();
    private static int checks = 0;
    private static int wrongs = 0;

    /** An object in a state, made anew as often as it is needed. */
    private static final class State {
        final String name;
        final String beach;
        final int laws;
        final int years;
        final int hours;
        final int bytes;
        ShingleBank bank;
        int calls;
        int cells;
        int sizes;
        int[] refused;
        String seen;

        State(String name, String beach, int laws, int years, int hours, int bytes) {
            this.name = name;
            this.beach = beach;
            this.laws = laws;
            this.years = years;
            this.hours = hours;
            this.bytes = bytes;
            make();
        }

        void make() {
            bank = new ShingleBank();
            for (int i = 0; i < laws; i++) {
                Texts.law(bank, "move=8;wear=4;over=20+height;");
            }
            for (int i = 0; i < years; i++) {
                Texts.year(bank, "wave 2 1 0;wave 1 2 1;");
            }
            if (beach != null) {
                Texts.beach(bank, beach);
                bank.take(0, 2);
                bank.sample(0, 0, 5);
                bank.image();
                for (int left = hours; left > 0; left -= 200) {
                    bank.lots(0, 0, Math.min(200, left), 5);
                }
            }
            for (int i = 0; i < bytes; i += 20) {
                bank.feed(i, i, i, i, i);
            }
            cells = bank.told(0);
            sizes = bank.told(1);
            refused = new int[4];
            seen = look();
            calls = 80;
        }

        /** All that a refused call might have changed. */
        String look() {
            StringBuilder all = new StringBuilder();
            for (int what = 0; what <= 6; what++) {
                all.append(bank.told(what)).append(' ');
            }
            for (int what = 0; what <= 3; what++) {
                all.append(bank.count(what)).append(' ').append(bank.order(what)).append(' ').append(bank.sums(what)).append(' ');
            }
            for (int c = 0; c < cells; c++) {
                all.append(bank.cell(c, 0)).append(' ').append(bank.cell(c, 1)).append(' ').append(bank.cell(c, 2)).append(' ');
                all.append(bank.stones(c, -1, -1)).append(' ').append(bank.word(c)).append(' ').append(bank.mean(c)).append(' ');
            }
            return all.append(bank.sums(4)).append(' ').append(bank.lost()).append(' ').append(bank.fault()).toString();
        }

        /** Nobody may use an object for more than 512 calls. */
        void makeIfUsedUp() {
            if (calls > 400) {
                need(look().equals(seen), name + ": something was changed: " + look() + " was " + seen);
                make();
            }
        }

        int[] ends(String kind) {
            switch (kind) {
                case "c": return new int[]{0, cells - 1, 0};
                case "C": return new int[]{-1, cells - 1, 0};
                case "w": return new int[]{0, cells - 2, 0};
                case "l": return new int[]{0, laws - 1, 1};
                case "y": return new int[]{0, years - 1, 1};
                case "z": return new int[]{0, sizes - 1, 2};
                case "Z": return new int[]{-1, sizes - 1, 2};
                case "k": return new int[]{0, 2, 2};
                case "K": return new int[]{-1, 2, 2};
                case "t": return new int[]{0, bytes, 2};
                case "n": return new int[]{1, cells, 2};
                case "r": return new int[]{1, Math.min(3, cells), 2};
                case "s": return new int[]{1, Math.min(3, cells - 1), 2};
                case "x": return new int[]{Integer.MIN_VALUE, Integer.MAX_VALUE, RIGHT};
                default:
                    String[] told = kind.split(":");
                    return new int[]{Integer.parseInt(told[0]), Integer.parseInt(told[1]), 2};
            }
        }

        boolean isBarred() {
            return cells == 0 || hours >= 600;
        }
    }

    private static void need(boolean right, String what) {
        checks++;
        if (!right) {
            wrongs++;
            if (wrongs < 50) {
                System.out.println(what);
            }
        }
    }

    public static void main(String[] args) throws IllegalAccessException {
        for (Method m : ShingleBank.class.getDeclaredMethods()) {
            METHODS.put(m.getName(), m);
        }
        String few = "cells 2;sizes 2;heap 0 0 2 500;heap 1 1 1 70;crest 0 21;wall 0 3;spring 0 0 0 1;lorry 0 2 1 1;";
        State[] states = {
            new State("a new object", null, 0, 0, 0, 0), new State("no BEACH", null, 1, 1, 0, 20), new State("no BEACH, all LAWS and YEARS", null, 4, 4, 0, 600),
            new State("few CELLS", few, 1, 1, 0, 40), new State("no LAW", few, 0, 1, 0, 0), new State("no YEAR", few, 2, 0, 0, 0), new State("neither", few, 0, 0, 0, 0),
            new State("the last HOUR", few, 1, 1, 599, 20), new State("HOURS are 600", few, 1, 1, 600, 20), new State("three CELLS", "cells 3;heap 1 3 2 9999;", 3, 2, 400, 580),
            new State("all CELLS", "cells 12;sizes 6;heap 0 0 2 99;heap 11 5 2 99;", 4, 4, 0, 600)};
        for (State state : states) {
            for (String call : CALLS) {
                allOf(state, call);
            }
            need(state.look().equals(state.seen), state.name + ": something was changed: " + state.look() + " was " + state.seen);
        }
        need(METHODS.size() >= CALLS.length, "a call is left out");
        System.out.println(checks + " checks, " + wrongs + " wrong");
        if (wrongs > 0) {
            System.exit(1);
        }
    }

    private static void allOf(State state, String call) throws IllegalAccessException {
        String[] parts = call.split(" ");
        int[][] choices = new int[parts.length - 1][];
        for (int i = 0; i < choices.length; i++) {
            int[] ends = state.ends(parts[i + 1]);
            List<Integer> some = new ArrayList<>(List.of(ends[0], ends[1]));
            if (ends[2] != RIGHT) {
                some.add(ends[0] - 1);
                some.add(ends[1] + 1);
                if (choices.length < 5) {
                    some.add(Integer.MIN_VALUE);
                    some.add(Integer.MAX_VALUE);
                }
            } else {
                some.add(0);
            }
            choices[i] = some.stream().mapToInt(n -> n).distinct().toArray();
        }
        int[] at = new int[choices.length];
        do {
            int[] n = new int[at.length];
            for (int i = 0; i < n.length; i++) {
                n[i] = choices[i][at[i]];
            }
            check(state, parts, n);
        } while (next(at, choices));
    }

    private static boolean next(int[] at, int[][] choices) {
        for (int i = 0; i < at.length; i++) {
            at[i]++;
            if (at[i] < choices[i].length) {
                return true;
            }
            at[i] = 0;
        }
        return false;
    }

    /** The exceptions stand in the face in this order for every call: it is the order in which they go. */
    private static int due(State state, String[] parts, int[] n) {
        int due = parts[0].endsWith("?") && state.isBarred() ? 3 : RIGHT;
        for (int i = 0; i < n.length; i++) {
            int[] ends = state.ends(parts[i + 1]);
            if (n[i] < ends[0] || n[i] > ends[1]) {
                due = Math.min(due, ends[2]);
            }
        }
        return due;
    }

    private static void check(State state, String[] parts, int[] n) throws IllegalAccessException {
        int due = due(state, parts, n);
        String name = parts[0].replaceAll("[!?]", "");
        Object[] boxed = Arrays.stream(n).boxed().toArray();
        Class<?> got = null;
        try {
            METHODS.get(name).invoke(state.bank, boxed);
        } catch (InvocationTargetException e) {
            got = e.getCause().getClass();
        }
        Class<?> want = due == RIGHT ? null : CLASSES[due];
        if (got != want) {
            need(false, state.name + ": " + name + Arrays.toString(n) + " throws " + (got == null ? "nothing" : got.getSimpleName()) + ", due is " + NAMES[due]);
        }
        checks++;
        if (due != RIGHT) {
            state.refused[due]++;
        }
        for (int what = 0; what < 4; what++) {
            if (state.bank.status(what) != state.refused[what]) {
                need(false, state.name + ": status " + what + " behind " + name + Arrays.toString(n) + " is " + state.bank.status(what) + ", due is " + state.refused[what]);
                state.refused[what] = state.bank.status(what);
            }
        }
        state.calls += 5;
        if (due == RIGHT && parts[0].contains("!")) {
            state.make();
        }
        state.makeIfUsedUp();
    }
}
