import java.lang.reflect.InvocationTargetException;
import java.lang.reflect.Method;
import java.util.ArrayList;
import java.util.HashMap;
import java.util.List;
import java.util.Map;
import java.util.Random;

/** Runs of calls by lot: the class has to answer each of them as the model does. */
public final class ModelTest {
    private static final int RUNS = Integer.getInteger("runs", 1500);
    private static final int CALLS = 512;

    // what stands for each argument: c CELL, z SIZE, k STUFF (C, Z, K: or NONE), l LAW, y YEAR; else the least and the greatest
    private static final String[] CALLED = {
        "fault", "told 0:6", "stones C Z K", "cell c 0:2", "put c z k 1:999", "says l 0:2 c z k 1:30 1:20 0:1", "wave l 1:30 1:20 0:1",
        "run l y", "lots l y 1:200 any", "mean c", "order 0:3", "horn 0:4", "sound c", "take z k", "drop", "word c", "odds c", "where 0:2",
        "found z 1:16", "miles z", "lost", "look z n 0:1", "left l y c z", "sample c z -1:999999", "sample c z 0:99", "which y 0:1", "cost l y c 0:16 c",
        "raised l y 1:3 1:20 0:1", "brought l y 1:999 0:1", "sums 0:4", "last l y c 1:999999", "last l y c 1:99", "like c c",
        "walls l y 1:3 1:16 c 0:1", "high l y", "one 0:1", "seen 1:999 1:16", "image", "restore", "status 0:3", "count 0:3",
        "fault", "told 0:6", "stones C Z K", "cell c 0:2", "put c z k 1:999", "says l 0:2 c z k 1:30 1:20 0:1", "wave l 1:30 1:20 0:1",
        "mean c", "order 0:3", "take z k", "where 0:2", "word c", "odds c", "wave l 1:30 1:20 0:1", "wave l 1:30 1:20 0:1"};
    private static final List<String> DEAR = List.of("raised", "brought", "walls", "high", "last", "which", "cost", "left", "run", "lots");

    private final Random lot;
    private final ShingleBank bank = new ShingleBank();
    private final Model model = new Model();
    private final List<String> told = new ArrayList<>();
    private static final Map<String, Method> OF_BANK = new HashMap<>();
    private static final Map<String, Method> OF_MODEL = new HashMap<>();
    private static final Map<String, Integer> ANSWERED = new HashMap<>();
    private int calls = 0;

    private ModelTest(long seed) {
        lot = new Random(seed);
    }

    public static void main(String[] args) {
        for (Method m : ShingleBank.class.getDeclaredMethods()) {
            OF_BANK.put(m.getName(), m);
        }
        for (Method m : Model.class.getDeclaredMethods()) {
            if (java.lang.reflect.Modifier.isPublic(m.getModifiers())) {
                OF_MODEL.put(m.getName(), m);
            }
        }
        for (int run = 0; run < RUNS; run++) {
            if (!new ModelTest(run).agrees(run)) {
                System.exit(1);
            }
        }
        System.out.println(RUNS + " runs by lot answered as the model does");
        if (args.length > 0) {
            new java.util.TreeMap<>(ANSWERED).forEach((k, v) -> System.out.println(k + " " + v));
        }
    }

    private boolean agrees(int run) {
        boolean small = run % 3 > 0;
        boolean right = run % 5 == 0 || begin(small);
        while (right && calls < CALLS) {
            int roll = lot.nextInt(100);
            if (roll < 3 || calls < 40 && roll < 60) {
                right = tellText(small);
            } else {
                String[] call = CALLED[lot.nextInt(CALLED.length)].split(" ");
                if (!small && DEAR.contains(call[0]) && lot.nextInt(20) > 0) {
                    continue;
                }
                int[] n = new int[call.length - 1];
                for (int i = 0; i < n.length; i++) {
                    n[i] = argument(call[i + 1]);
                }
                right = same(call[0], n);
            }
        }
        if (!right) {
            System.out.println("run " + run + ":");
            told.forEach(System.out::println);
        }
        return right;
    }

    /** Without a BEACH, a LAW and a YEAR most calls are only refused. */
    private boolean begin(boolean small) {
        boolean right = tell(0, Texts.beachByLot(lot, small));
        for (int i = lot.nextInt(4); i >= 0 && right; i--) {
            right = tell(1, Texts.lawByLot(lot)) && tell(2, Texts.yearByLot(lot, lot.nextBoolean()));
        }
        return right;
    }

    private boolean tellText(boolean small) {
        int which = lot.nextInt(3);
        String text = which == 0 ? Texts.beachByLot(lot, small) : which == 1 ? Texts.lawByLot(lot) : Texts.yearByLot(lot, lot.nextBoolean());
        return tell(which, lot.nextInt(which == 0 ? 3 : 2) == 0 ? Texts.spoilt(lot, text) : text);
    }

    private boolean tell(int which, String whole) {
        String text = whole.length() > 600 ? whole.substring(0, 600) : whole;
        boolean right = true;
        for (int i = 0; i < Texts.feeds(text) && right; i++) {
            right = same("feed", Texts.numbers(text, i));
        }
        told.add("the text is: " + text);
        int n = lot.nextInt(20) == 0 ? pick(0, model.tape.length) : Math.min(text.length(), 600);
        return right && same(new String[]{"beach", "law", "year"}[which], n) && same("fault");
    }

    private int argument(String kind) {
        Model.Shore s = model.live;
        switch (kind) {
            case "c": return pick(0, s.cells - 1);
            case "z": return pick(0, s.sizes - 1);
            case "k": return pick(0, 2);
            case "C": return lot.nextInt(3) == 0 ? -1 : pick(0, s.cells - 1);
            case "Z": return lot.nextInt(3) == 0 ? -1 : pick(0, s.sizes - 1);
            case "K": return lot.nextInt(3) == 0 ? -1 : pick(0, 2);
            case "l": return pick(0, model.laws.size() - 1);
            case "y": return pick(0, model.years.size() - 1);
            case "n": return pick(1, s.cells);
            case "any": return lot.nextInt();
            default:
                String[] ends = kind.split(":");
                return pick(Integer.parseInt(ends[0]), Integer.parseInt(ends[1]));
        }
    }

    private int pick(int low, int high) {
        int kind = lot.nextInt(60);
        if (kind == 0) {
            int[] wrong = {low - 1, high + 1, Integer.MIN_VALUE, Integer.MAX_VALUE, -1};
            return wrong[lot.nextInt(5)];
        }
        if (kind < 8 || low >= high) {
            return kind % 2 == 0 ? low : high;
        }
        return low + lot.nextInt(high - low + 1);
    }

    private boolean same(String name, int... n) {
        calls++;
        String due = answer(OF_MODEL, model, name, n);
        String got = answer(OF_BANK, bank, name, n);
        boolean telling = name.equals("beach") || name.equals("law") || name.equals("year");
        ANSWERED.merge(name + (telling || due.startsWith("throws") ? " " + due : ""), 1, Integer::sum);
        told.add(name + java.util.Arrays.toString(n) + " answered " + got + (got.equals(due) ? "" : ", due is " + due));
        return got.equals(due);
    }

    private static String answer(Map<String, Method> all, Object on, String name, int[] n) {
        Object[] boxed = new Object[n.length];
        for (int i = 0; i < n.length; i++) {
            boxed[i] = n[i];
        }
        try {
            return String.valueOf(all.get(name).invoke(on, boxed));
        } catch (InvocationTargetException e) {
            StringBuilder at = new StringBuilder();
            if (e.getCause().getClass() == ArrayIndexOutOfBoundsException.class || e.getCause() instanceof NullPointerException) {
                at.append(java.util.Arrays.toString(e.getCause().getStackTrace()));
            }
            return "throws " + e.getCause().getClass().getSimpleName() + at;
        } catch (IllegalAccessException e) {
            return "can't be called";
        }
    }
}
