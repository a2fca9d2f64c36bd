import java.nio.charset.StandardCharsets;
import java.util.Random;

/** Texts for the tests: how one comes on the tape, and how some are made by lot. */
final class Texts {
    private Texts() {
    }

    /** The five numbers of the i-th feed of a text; behind its end stand zeros. */
    static int[] numbers(String text, int i) {
        byte[] bytes = text.getBytes(StandardCharsets.ISO_8859_1);
        int[] five = new int[5];
        for (int b = 0; b < 20; b++) {
            int at = 20 * i + b;
            five[b / 4] = five[b / 4] << 8 | (at < bytes.length ? bytes[at] & 255 : 0);
        }
        return five;
    }

    static int feeds(String text) {
        return (text.length() + 19) / 20;
    }

    static void feed(ShingleBank bank, String text) {
        for (int i = 0; i < feeds(text); i++) {
            int[] n = numbers(text, i);
            bank.feed(n[0], n[1], n[2], n[3], n[4]);
        }
    }

    static int beach(ShingleBank bank, String text) {
        feed(bank, text);
        return bank.beach(text.length());
    }

    static int law(ShingleBank bank, String text) {
        feed(bank, text);
        return bank.law(text.length());
    }

    static int year(ShingleBank bank, String text) {
        feed(bank, text);
        return bank.year(text.length());
    }

    // ---- by lot ----

    private static int in(Random lot, int low, int high) {
        return low + lot.nextInt(high - low + 1);
    }

    static String beachByLot(Random lot, boolean small) {
        StringBuilder t = new StringBuilder();
        int cells = 6;
        int sizes = 4;
        boolean sizesFirst = lot.nextBoolean();
        for (int i = 0; i < 2; i++) {
            if ((i == 0) == sizesFirst) {
                if (lot.nextInt(4) > 0) {
                    sizes = in(lot, 2, 6);
                    t.append("sizes ").append(sizes).append(';');
                }
            } else if (small || lot.nextInt(4) > 0) {
                cells = small ? in(lot, 2, 5) : in(lot, 2, 12);
                t.append("cells").append(' ').append(cells).append(';');
            }
        }
        int clauses = in(lot, 0, 40);
        int most = new int[]{9, 99, 9999}[lot.nextInt(3)];
        for (int i = 0; i < clauses; i++) {
            String clause;
            int c = lot.nextInt(cells);
            String stone = " " + lot.nextInt(sizes) + " " + lot.nextInt(3) + " ";
            switch (lot.nextInt(12)) {
                case 0 -> clause = "crest " + c + " " + in(lot, 1, lot.nextBoolean() ? 60 : 9);
                case 1, 2 -> clause = "wall " + lot.nextInt(cells - 1) + " " + in(lot, 1, 16);
                case 3 -> clause = "spring " + c + stone + in(lot, 1, lot.nextBoolean() ? 999 : 9);
                case 4 -> clause = "lorry " + c + " " + (c + 1 + lot.nextInt(cells)) % (cells + 1) + " " + in(lot, 1, 99) + " " + in(lot, 1, lot.nextBoolean() ? 4 : 99);
                default -> clause = "heap " + c + stone + lot.nextInt(most + 1);
            }
            if (t.length() + clause.length() + 1 <= 590) {
                t.append(clause).append(';');
            }
        }
        return t.toString();
    }

    static String yearByLot(Random lot, boolean shortOne) {
        StringBuilder t = new StringBuilder();
        int waves = in(lot, 1, shortOne ? 4 : 20);
        for (int i = 0; i < waves; i++) {
            t.append("wave ").append(in(lot, 1, 30)).append(' ').append(in(lot, 1, 20)).append(' ').append(lot.nextInt(2));
            if (lot.nextInt(3) == 0) {
                t.append(" times ").append(in(lot, 1, 9));
            }
            t.append(lot.nextInt(9) == 0 ? " ;" : ";");
        }
        return t.toString();
    }

    static String lawByLot(Random lot) {
        String[] words = {"move", "wear", "over"};
        StringBuilder t = new StringBuilder();
        int skipped = lot.nextInt(9);
        int first = lot.nextInt(3);
        for (int i = 0; i < 3; i++) {
            int which = (first + i) % 3;
            String rule = words[which] + "=" + value(lot, lot.nextInt(5)) + ";";
            if (which != skipped && t.length() + rule.length() <= 590) {
                t.append(rule);
            }
        }
        return t.toString();
    }

    private static String value(Random lot, int depth) {
        if (depth > 0 && lot.nextInt(3) == 0) {
            return "if " + condition(lot, depth - 1) + " then " + value(lot, depth - 1) + " else " + value(lot, depth - 1);
        }
        StringBuilder t = new StringBuilder(term(lot, depth));
        for (int i = lot.nextInt(3); i > 0; i--) {
            t.append(lot.nextBoolean() ? "+" : lot.nextInt(5) == 0 ? " - " : "-").append(term(lot, depth));
        }
        return t.toString();
    }

    private static String term(Random lot, int depth) {
        StringBuilder t = new StringBuilder(unit(lot, depth));
        while (lot.nextInt(3) == 0) {
            t.append(lot.nextBoolean() ? "*" : "/").append(unit(lot, depth));
        }
        return t.toString();
    }

    private static String unit(Random lot, int depth) {
        String[] names = {"size", "stuff", "above", "below", "height", "beat", "from", "crest", "cell"};
        if (depth > 0 && lot.nextInt(4) == 0) {
            return "(" + value(lot, depth - 1) + ")";
        }
        return lot.nextInt(3) == 0 ? Integer.toString(lot.nextInt(lot.nextInt(9) == 0 ? 10000 : 20)) : names[lot.nextInt(9)];
    }

    private static String condition(Random lot, int depth) {
        StringBuilder t = new StringBuilder(test(lot, depth));
        while (lot.nextInt(3) == 0) {
            t.append(lot.nextBoolean() ? " or " : " and ").append(test(lot, depth));
        }
        return t.toString();
    }

    private static String test(Random lot, int depth) {
        int kind = depth > 0 ? lot.nextInt(5) : 4;
        if (kind == 0) {
            return "not " + test(lot, depth - 1);
        }
        if (kind == 1) {
            return "[" + condition(lot, depth - 1) + "]";
        }
        return value(lot, depth > 0 ? depth - 1 : 0) + new String[]{"<", ">", "="}[lot.nextInt(3)] + value(lot, 0);
    }

    /** A text that is likely to be wrong somewhere. */
    static String spoilt(Random lot, String text) {
        StringBuilder t = new StringBuilder(text);
        String[] bits = {" ", "  ", ";", "=", "(", ")", "[", "]", "if ", "not ", "(((((((", "[[[[[[[", " then ", " else ", " or ", " and ", "<",
            "0", "1", "17", "61", "1000", "10000", "99999999999", "00", "x", "size", "cells 3;", "sizes 3;", "move", "over=1;", "wear=1;", "wave 1 1 0;", " times 3",
            "spring 0 0 0 1;", "lorry 0 1 1 1;", "heap 0 0 0 1;", "crest 1 2;", "\u00ff", "\u0000", "A", "{", "`", "/", ":", "-"};
        for (int i = lot.nextInt(3); i >= 0; i--) {
            int at = lot.nextInt(t.length() + 1);
            switch (lot.nextInt(4)) {
                case 0 -> t.delete(at, Math.min(t.length(), at + 1 + lot.nextInt(4)));
                case 1 -> t.setLength(at);
                case 2 -> {
                    String bit = bits[lot.nextInt(bits.length)];
                    int times = lot.nextInt(6) == 0 ? 9 : 1;
                    for (int n = 0; n < times; n++) {
                        t.insert(at, bit);
                    }
                }
                default -> t.insert(at, bits[lot.nextInt(bits.length)]);
            }
        }
        if (t.length() > 600) {
            t.setLength(600);
        }
        return t.toString();
    }
}
