import java.util.ArrayList;
import java.util.List;
import java.util.Random;
import java.util.TreeMap;

/** Texts by lot, whole ones and spoilt ones: each has to be read, or to be found faulty, as the model does it. */
public final class TextsTest {
    private static final int TEXTS = Integer.getInteger("texts", 60000);
    private static final String[] VOCABULARY = {
        "cells", "sizes", "heap", "crest", "wall", "spring", "lorry", "wave", "times", "move", "wear", "over", "if", "then", "else", "or", "and", "not",
        "size", "stuff", "above", "below", "height", "beat", "from", "crest", "cell", "x", "=", "+", "-", "*", "/", "(", ")", "[", "]", "<", ">", ";", "#",
        "0", "1", "2", "3", "6", "12", "13", "17", "30", "31", "21", "60", "61", "99", "100", "999", "1000", "9999", "10000", "4294967297", "007"};
    private static final String[] WHOLE = {
        "wave 1 1 0;", "spring 0 0 0 1;", "lorry 0 1 1 1;", "heap 0 0 0 1;", "crest 1 2;", "wall 0 16;", "cells 3;", "sizes 3;", "move=1;", "over=2;", "wear=3;"};

    private TextsTest() {
    }

    public static void main(String[] args) {
        Random lot = new Random(44);
        TreeMap<String, Integer> answers = new TreeMap<>();
        for (int i = 0; i < TEXTS; i++) {
            int which = i % 3;
            String text = which == 0 ? Texts.beachByLot(lot, lot.nextBoolean()) : which == 1 ? Texts.lawByLot(lot) : Texts.yearByLot(lot, false);
            int spoils = lot.nextInt(4);
            for (int n = 0; n < spoils; n++) {
                text = lot.nextBoolean() ? Texts.spoilt(lot, text) : tokenSpoilt(lot, text);
            }
            text = text.substring(0, Math.min(600, text.length()));
            ShingleBank bank = new ShingleBank();
            Model model = new Model();
            for (int f = 0; f < Texts.feeds(text); f++) {
                int[] n = Texts.numbers(text, f);
                bank.feed(n[0], n[1], n[2], n[3], n[4]);
                model.feed(n[0], n[1], n[2], n[3], n[4]);
            }
            int n = text.length();
            int got = which == 0 ? bank.beach(n) : which == 1 ? bank.law(n) : bank.year(n);
            int due = which == 0 ? model.beach(n) : which == 1 ? model.law(n) : model.year(n);
            answers.merge(which + " " + due, 1, Integer::sum);
            if (got != due || bank.fault() != model.fault() || due >= 0 && !alike(lot, bank, model, which)) {
                System.out.println(text);
                System.out.println("answered " + got + " at " + bank.fault() + ", due is " + due + " at " + model.fault());
                System.exit(1);
            }
        }
        System.out.println(TEXTS + " texts by lot were read as the model does");
        if (args.length > 0) {
            System.out.println(answers);
        }
    }

    private static boolean alike(Random lot, ShingleBank bank, Model model, int which) {
        if (which == 1) {
            String beach = "cells 3;heap 1 0 0 3;heap 1 1 1 70;heap 1 2 2 9;heap 1 3 0 21;crest 1 9;";
            Texts.beach(bank, beach);
            for (int f = 0; f < Texts.feeds(beach); f++) {
                int[] n = Texts.numbers(beach, f);
                model.feed(n[0], n[1], n[2], n[3], n[4]);
            }
            model.beach(beach.length());
            for (int i = 0; i < 12; i++) {
                int what = i % 3;
                int cell = lot.nextInt(3);
                int size = lot.nextInt(4);
                int stuff = lot.nextInt(3);
                int height = 1 + lot.nextInt(30);
                int beat = 1 + lot.nextInt(20);
                int from = lot.nextInt(2);
                int got = bank.says(0, what, cell, size, stuff, height, beat, from);
                if (got != model.says(0, what, cell, size, stuff, height, beat, from)) {
                    return false;
                }
            }
        }
        for (int i = 0; i <= 6; i++) {
            if (bank.told(i) != model.told(i)) {
                return false;
            }
        }
        for (int c = 0; c < bank.told(0); c++) {
            for (int z = 0; z < bank.told(1); z++) {
                for (int k = 0; k < 3; k++) {
                    if (bank.stones(c, z, k) != model.stones(c, z, k)) {
                        return false;
                    }
                }
            }
            if (bank.cell(c, 0) != model.cell(c, 0) || bank.cell(c, 1) != model.cell(c, 1)) {
                return false;
            }
        }
        return true;
    }

    private static String tokenSpoilt(Random lot, String text) {
        List<String> parts = new ArrayList<>();
        for (Model.Token t : Model.tokens(text.getBytes(java.nio.charset.StandardCharsets.ISO_8859_1), text.length())) {
            parts.add(t.text());
        }
        int at = lot.nextInt(parts.size());
        switch (lot.nextInt(6)) {
            case 0 -> parts.remove(at);
            case 1 -> parts.set(at, VOCABULARY[lot.nextInt(VOCABULARY.length)]);
            case 2 -> parts.add(at, VOCABULARY[lot.nextInt(VOCABULARY.length)]);
            case 3 -> parts.add(at, parts.get(lot.nextInt(parts.size())));
            case 4 -> {
                String bit = new String[]{"(", "[", "not", "if 1=1 then"}[lot.nextInt(4)];
                for (int i = lot.nextInt(8); i >= 0; i--) {
                    parts.add(at, bit);
                }
            }
            default -> {
                String clause = WHOLE[lot.nextInt(WHOLE.length)];
                for (int i = lot.nextInt(4) == 0 ? lot.nextInt(62) : 0; i >= 0; i--) {
                    parts.add(lot.nextBoolean() ? 0 : parts.size(), clause);
                }
            }
        }
        StringBuilder whole = new StringBuilder();
        for (String part : parts) {
            boolean letters = part.matches("[a-z0-9].*") && whole.length() > 0 && whole.substring(whole.length() - 1).matches("[a-z0-9]");
            whole.append(letters || lot.nextInt(30) == 0 ? " " : "").append(part);
        }
        return whole.toString();
    }
}
