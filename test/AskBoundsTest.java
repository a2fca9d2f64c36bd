/** Terms, parts 3 to 5: what is asked of a beach, at the ends, where it is cut, where alike ones stand. */
public final class AskBoundsTest extends Sentences {
    private static final String YEAR_OF_180 = many("wave 1 1 0 times 9;", 20);

    public static void main(String[] args) {
        handful();
        shares();
        odds();
        guessAndNear();
        noWords();
        sounds();
        known();
        found();
        miles();
        lost();
        looking();
        hoursEnd();
        hoursEndAll();
        nothingStays();
        left();
        whichLaw();
        cost();
        raised();
        brought();
        sums();
        last();
        like();
        wallSets();
        high();
        byOne();
        seen();
        end();
    }

    // ---- in the dark ----

    private static void handful() {
        sentence("A HANDFUL: 1 to 4 stones (SIZE, STUFF).");
        ShingleBank b = on("cells 2;heap 0 0 0 1;heap 1 0 0 1;heap 1 3 2 3;");
        due("none: WORD", b.word(0), 1);
        long word = 1;
        for (int n = 1; n <= 4; n++) {
            due("take " + n, b.take(n % 2 == 0 ? 3 : 0, n % 2 == 0 ? 2 : 0), n);
            word *= n % 2 == 0 ? 750 : 250;
            due("WORD of " + n, b.word(1), word);
        }
        due("a fifth", b.take(0, 0), -1);
        due("WORD as it was", b.word(1), word);
        due("4", b.count(0), 4);
        due("drop", b.drop(), 4);
        due("none", b.drop(), 0);
        due("none: WORD", b.word(1), 1);
        sentence("WORD of a CELL: the SHARES of all of the HANDFUL multiplied.");
        ShingleBank full = on("cells 12;heap 0 0 0 9;heap 11 0 0 9999;");
        for (int n = 0; n < 4; n++) {
            full.take(0, 0);
        }
        due("the greatest, beyond 32 bits", full.word(11), 1000000000000L);
        due("and of few stones", full.word(0), 1000000000000L);
        due("0 of one that has none", full.word(5), 0);
        due("ODDS of such", full.odds(11), 500);
        due("NEAR of such", full.where(1), 0);
        due("how far of such: 11 by 2", full.where(2), 5500);
    }

    private static void shares() {
        sentence("SHARE of a CELL: 1,000 times its stones of that SIZE and STUFF by all its stones (cut; 0 without).");
        int[][] lots = {{1, 1}, {1, 2}, {2, 3}, {1, 999}, {1, 1000}, {1, 1001}, {999, 1000}, {9999, 19998}, {1, 0}};
        for (int[] n : lots) {
            int all = Math.max(n[0], n[1]);
            ShingleBank b = on("cells 2;heap 0 2 1 " + n[0] + ";heap 0 1 1 " + (all - n[0]) + ";");
            b.take(2, 1);
            due(n[0] + " of " + all, b.word(0), 1000L * n[0] / all);
            due("without stones", b.word(1), 0);
        }
        ShingleBank b = on("cells 2;heap 0 2 1 5;");
        b.take(2, 2);
        due("none of that STUFF", b.word(0), 0);
        b.drop();
        b.take(1, 1);
        due("none of that SIZE", b.word(0), 0);
    }

    private static void odds() {
        sentence("ODDS: of 1,000 (cut) its WORD by all WORDS together (0, if these are 0).");
        ShingleBank three = on("cells 3;heap 0 0 0 1;heap 1 0 0 1;heap 2 0 0 1;");
        due("one of three, without a HANDFUL", three.odds(2), 333);
        three.take(0, 0);
        due("one of three", three.odds(0), 333);
        three.take(1, 0);
        due("all are 0", three.odds(0), 0);
        ShingleBank alone = on("cells 3;heap 1 0 0 1;");
        alone.take(0, 0);
        due("all of it", alone.odds(1), 1000);
        due("nothing of it", alone.odds(0), 0);
        ShingleBank little = on("cells 3;heap 0 0 0 1;heap 0 1 0 999;heap 1 0 0 1;");
        little.take(0, 0);
        due("1 of 1,001", little.odds(0), 0);
        due("1,000 of 1,001", little.odds(1), 999);
    }

    private static void guessAndNear() {
        sentence("GUESS: the CELL of the greatest WORD, of these the first");
        ShingleBank alike = on("cells 4;heap 1 0 0 5;heap 2 0 0 5;heap 3 0 0 5;");
        alike.take(0, 0);
        due("of alike ones the first", alike.where(0), 1);
        alike.put(1, 1, 0, 1);
        due("one less", alike.where(0), 2);
        ShingleBank more = on("cells 2;heap 0 0 0 499;heap 0 1 0 501;heap 1 0 0 1;heap 1 1 0 1;");
        more.take(0, 0);
        due("one more by a 1,000th", more.where(0), 1);
        sentence("NEAR: that from which all others, each as far as it is by its WORD, are least far together, of these the first");
        ShingleBank two = on("cells 2;heap 0 0 0 1;heap 1 0 0 1;");
        due("of two alike ones the first", two.where(1), 0);
        two.take(0, 0);
        due("with a HANDFUL too", two.where(1), 0);
        due("of four the second", on("cells 4;").where(1), 1);
        due("of twelve the sixth", on("cells 12;").where(1), 5);
        due("of three the one between", on("cells 3;").where(1), 1);
        ShingleBank between = on("cells 4;heap 0 0 0 1;heap 3 0 0 1;");
        between.take(0, 0);
        due("from all it is as far: the first", between.where(1), 0);
        between.put(0, 1, 0, 1);
        due("nearer to the greater WORD", between.where(1), 3);
        sentence("how far: 1,000 times that by all WORDS (cut).");
        due("500 by 1,500", between.where(2), 1000);
        due("1 by 2", two.where(2), 500);
        due("2 by 3", on("cells 3;").where(2), 666);
        ShingleBank single = on("cells 12;heap 11 0 0 1;");
        single.take(0, 0);
        due("alone: 0, not NONE", single.where(2), 0);
        due("alone: NEAR", single.where(1), 11);
    }

    private static void noWords() {
        sentence("NONE, if all WORDS are 0.");
        ShingleBank b = on("cells 3;heap 1 0 0 999;heap 1 1 0 1;");
        b.take(1, 0);
        due("1 by 1,000 is a WORD: GUESS", b.where(0), 1);
        due("NEAR", b.where(1), 1);
        due("how far", b.where(2), 0);
        b.put(1, 0, 0, 1);
        for (int what = 0; what < 3; what++) {
            due("1 by 1,001 is none: " + what, b.where(what), -1);
        }
        ShingleBank empty = on("cells 3;");
        due("without stones and a HANDFUL all WORDS are 1", empty.where(0), 0);
        empty.take(0, 0);
        for (int what = 0; what < 3; what++) {
            due("without stones: " + what, empty.where(what), -1);
            due("without a BEACH: " + what, new ShingleBank().where(what), -1);
        }
    }

    private static void sounds() {
        sentence("SOUND of a CELL: 60 less MEAN by 100 (cut)");
        int[][] means = {{0, 60}, {1, 60}, {99, 60}, {100, 59}, {101, 59}, {199, 59}, {200, 58}, {900, 51}, {999, 51}, {1000, 50}};
        for (int[] m : means) {
            ShingleBank b = on("cells 2;heap 0 0 0 " + (1000 - m[0]) + ";heap 0 1 0 " + m[0] + ";");
            due("MEAN " + m[0], b.sound(0), m[1]);
            due("without stones", b.sound(1), -1);
        }
        due("MEAN 5,000", on("cells 2;sizes 6;heap 0 5 0 1;").sound(0), 10);
    }

    private static void known() {
        sentence("one can TELL two CELLS (with stones) if it is not alike. KNOWN: how many CELLS can be told from all others with stones.");
        due("none without stones", on("cells 3;").order(3), 0);
        due("one alone", on("cells 3;heap 0 0 0 1;").order(3), 1);
        due("two alike", on("cells 3;heap 0 0 0 1;heap 2 0 0 1;").order(3), 0);
        due("two by SOUNDS 60 and 60: MEANS 0 and 99", on("cells 2;heap 0 0 0 1;heap 1 0 0 901;heap 1 1 0 99;").order(3), 0);
        due("two by SOUNDS 60 and 59: MEANS 0 and 100", on("cells 2;heap 0 0 0 1;heap 1 0 0 900;heap 1 1 0 100;").order(3), 2);
        due("two alike and another", on("cells 4;heap 0 0 0 1;heap 1 1 0 1;heap 3 0 0 1;").order(3), 1);
        due("six that differ", on("cells 6;sizes 6;heap 0 0 0 1;heap 1 1 0 1;heap 2 2 0 1;heap 3 3 0 1;heap 4 4 0 1;heap 5 5 0 1;").order(3), 6);
    }

    // ---- painted ones ----

    private static void found() {
        sentence("PAINTED are stones of STUFF 2. FOUND of a SIZE with s of 16 (1 to 16): of each CELL as many of 16 (cut).");
        for (int s = 1; s <= 16; s++) {
            for (int n : new int[]{0, 1, 15, 16, 17, 9999}) {
                ShingleBank b = on("cells 2;sizes 2;heap 0 1 2 " + n + ";heap 1 1 2 " + n + ";heap 0 1 0 999;heap 0 1 1 999;heap 0 0 2 999;");
                due(s + " of 16 of " + n + ", twice", b.found(1, s), 2 * (n * s / 16));
            }
        }
        due("of each CELL cut: 15 and 15", on("cells 2;heap 0 0 2 15;heap 1 0 2 15;").found(0, 1), 0);
        due("of each CELL cut: 16 and 15", on("cells 2;heap 0 0 2 16;heap 1 0 2 15;").found(0, 1), 1);
    }

    private static void miles() {
        sentence("MILES of a SIZE: 1,000 times all CELLS of PAINTED ones by how many (cut); NONE without.");
        due("NONE without", on("cells 2;heap 1 0 0 5;heap 1 0 1 5;heap 1 1 2 5;").miles(0), -1);
        due("0 in the first, not NONE", on("cells 2;heap 0 0 2 5;").miles(0), 0);
        due("the last of twelve", on("cells 12;heap 11 0 2 1;").miles(0), 11000);
        due("a third", on("cells 2;heap 0 0 2 2;heap 1 0 2 1;").miles(0), 333);
        due("two thirds", on("cells 2;heap 0 0 2 1;heap 1 0 2 2;").miles(0), 666);
        due("less than one", on("cells 2;heap 0 0 2 9999;heap 1 0 2 9;").miles(0), 0);
        due("just one", on("cells 2;heap 0 0 2 999;heap 1 0 2 1;").miles(0), 1);
        due("all CELLS together: 6 by 3", on("cells 4;heap 1 0 2 1;heap 2 0 2 1;heap 3 0 2 1;").miles(0), 2000);
    }

    private static void lost() {
        sentence("LOST: how many fewer PAINTED there are than were told in heaps, put and came by springs.");
        ShingleBank b = on("cells 2;heap 0 0 2 16;heap 0 0 1 16;heap 0 0 0 16;spring 1 1 2 7;spring 1 1 1 9;", "move=16;wear=if beat=20 then 16 else 0;");
        due("none at first", b.lost(), 0);
        b.put(0, 1, 2, 5);
        b.put(0, 1, 1, 5);
        due("none by put", b.lost(), 0);
        b.wave(0, 1, 1, 0);
        due("none by what goes on and comes", b.lost(), 0);
        b.wave(0, 1, 20, 0);
        due("16 of SIZE 0 are SAND", b.lost(), 16);
        b.wave(0, 1, 1, 1);
        due("none as they go back", b.lost(), 16);
        ShingleBank gone = on("cells 2;heap 0 0 2 32;heap 0 0 0 32;crest 0 1;lorry 0 2 31 2;", "over=2;");
        gone.wave(0, 1, 1, 0);
        due("a 16th BEHIND", gone.lost(), 2);
        gone.wave(0, 1, 1, 0);
        // 30 and 30, of each one more BEHIND; 31 are sold: 29 of STUFF 0, and 2 of STUFF 2
        due("and sold", gone.lost(), 3 + 2);
        due("a new BEACH begins anew", Texts.beach(gone, "cells 2;heap 0 0 2 1;"), 2);
        due("LOST", gone.lost(), 0);
        due("without a BEACH", new ShingleBank().lost(), 0);
    }

    private static void looking() {
        sentence("COINS are sorted as a SIZE is: LOOKING in n CELLS: those with the most stones of that SIZE (all STUFF; of alike ones the first): of 1,000 (cut) the part of all of that SIZE that is there.");
        ShingleBank b = on("cells 4;heap 0 1 0 1;heap 1 1 0 1;heap 2 1 1 1;heap 3 1 2 1;heap 0 0 0 99;");
        int[] bits = {1, 3, 7, 15};
        int[] parts = {250, 500, 750, 1000};
        for (int n = 1; n <= 4; n++) {
            due("of alike ones the first " + n, b.look(1, n, 0), bits[n - 1]);
            due("their part", b.look(1, n, 1), parts[n - 1]);
        }
        b.put(3, 1, 0, 1);
        due("one more", b.look(1, 1, 0), 8);
        due("2 of 5", b.look(1, 1, 1), 400);
        due("and the first of the alike ones", b.look(1, 2, 0), 9);
        due("another SIZE is looked for elsewhere", b.look(0, 1, 0), 1);
        due("and all of it is there", b.look(0, 1, 1), 1000);
        ShingleBank third = on("cells 3;heap 0 1 0 1;heap 1 1 1 1;heap 2 1 2 1;");
        due("a third, cut", third.look(1, 1, 1), 333);
        due("two thirds, cut", third.look(1, 2, 1), 666);
        due("without any: the first ones", third.look(0, 2, 0), 3);
        due("0 without any", third.look(0, 3, 1), 0);
        StringBuilder rising = new StringBuilder("cells 12;");
        for (int c = 0; c < 12; c++) {
            rising.append("heap ").append(c).append(" 0 ").append(c % 3).append(' ').append(c + 1).append(';');
        }
        ShingleBank twelve = on(rising.toString());
        for (int n = 1; n <= 12; n++) {
            due("the last " + n, twelve.look(0, n, 0), 4095 >> (12 - n) << (12 - n));
            due("their part, cut", twelve.look(0, n, 1), 1000 * (78 - (12 - n) * (13 - n) / 2) / 78);
        }
    }

    // ---- behind a year ----

    /** Each HOUR a stone is sold, one comes, one goes over; so each HOUR shows. */
    private static ShingleBank at(int hours) {
        ShingleBank b = on("cells 3;sizes 2;heap 0 0 0 5000;heap 2 1 0 50;lorry 0 3 1 1;spring 1 0 0 1;", "move=if beat=9 then 16 else 0;over=if beat=5 then 21 else 0;");
        due("an empty LAW", Texts.law(b, ""), 1);
        due("a YEAR of 180", Texts.year(b, YEAR_OF_180), 1);
        due("a YEAR of two", Texts.year(b, "wave 1 5 0;wave 1 5 0;"), 2);
        due("a YEAR that moves at its end", Texts.year(b, "wave 1 1 0;wave 1 9 0;"), 3);
        pass(b, 1, 0, hours);
        return b;
    }

    private static void hoursEnd() {
        sentence("What comes of the BEACH as it is behind a YEAR (all waves, each as often as told) by a LAW; nothing stays changed; if HOURS would be above 600, it ends there.");
        due("all waves, each as often as told", at(0).left(0, 1, 0, 0), 5000 - 180);
        due("up to 600: it has just room", at(420).left(0, 1, 0, 0), 5000 - 600);
        due("one more would be above", at(421).left(0, 1, 0, 0), 5000 - 600);
        due("the last HOUR", at(599).left(0, 1, 0, 0), 5000 - 600);
        due("two have room", at(598).left(1, 2, 1, 0), 600);
        due("two of three have room", at(597).left(1, 2, 1, 0), 599);
        due("only the first of two", at(599).left(1, 2, 1, 0), 600);
        ShingleBank full = at(600);
        refused(full, "HOURS are 600", BARRED, () -> full.left(0, 1, 0, 0));
        due("it stays as it is", full.stones(0, 0, 0), 5000 - 600);
    }

    private static void hoursEndAll() {
        sentence("if HOURS would be above 600, it ends there.");
        for (int hours = 597; hours <= 599; hours++) {
            int left = 600 - hours;
            ShingleBank b = at(hours);
            b.sample(0, 0, 5000 - hours);
            due("WHICH LAW: as many apart as HOURS are left, " + left, b.which(2, 1), Math.min(2, left));
            due("COST by a wall where something moves, " + left, b.cost(0, 3, 0, 16, 1), left < 2 ? 0 : 5000 - hours - 1);
            due("RAISED: OVERS of two CELLS, " + left, b.raised(0, 2, 1, 20, 1), 2 * Math.min(2, left));
            // by the second wave 4,999 less those hours come to CELL 1, where as many as those hours and 1 are kept; and 1 comes
            due("WALLS: stones of CELL 1, " + left, b.walls(0, 3, 1, 16, 1, 1), left < 2 ? 600 : 5001);
            due("HIGH, " + left, b.high(0, 2), 1);
            due("LAST, HOURS end behind so many, " + left, b.last(1, 2, 0, 4401), left < 3 ? 1 : 2);
            due("LAST, not as HOURS end, " + left, b.last(1, 2, 0, 4400), -1);
            // by the second wave CELL 0 is left without stones, whatever is brought there
            due("BROUGHT: IN ORDER, " + left, b.brought(0, 3, 1, 1), left < 2 ? 3 : 1);
            due("HOURS stay", b.told(6), hours);
        }
        ShingleBank dry = on("cells 2;", "over=if beat=5 then 21 else 0;", "wave 1 1 0;");
        Texts.year(dry, "wave 1 1 0;wave 1 5 0;");
        pass(dry, 0, 0, 598);
        due("HIGH: the second wave comes", dry.high(0, 1), 1);
        due("RAISED: the second wave comes", dry.raised(0, 1, 1, 1, 1), 1);
        dry.wave(0, 1, 1, 0);
        due("HIGH: it does not", dry.high(0, 1), 0);
        due("RAISED: it does not", dry.raised(0, 1, 1, 1, 1), 0);
    }

    private static String state(ShingleBank b) {
        StringBuilder all = new StringBuilder();
        for (int c = 0; c < b.told(0); c++) {
            for (int what = 0; what < 3; what++) {
                all.append(b.cell(c, what)).append(' ');
            }
            for (int size = 0; size < b.told(1); size++) {
                for (int stuff = 0; stuff < 3; stuff++) {
                    all.append(b.stones(c, size, stuff)).append(' ');
                }
            }
        }
        for (int what = 0; what <= 6; what++) {
            all.append(b.told(what)).append(' ');
        }
        for (int what = 0; what < 4; what++) {
            all.append(b.count(what)).append(' ').append(b.status(what)).append(' ').append(b.sums(what)).append(' ');
        }
        return all.append(b.sums(4)).append(' ').append(b.lost()).append(' ').append(b.fault()).append(' ').append(b.word(0)).toString();
    }

    private static void nothingStays() {
        sentence("nothing stays changed");
        ShingleBank b = on("cells 3;sizes 2;heap 0 0 2 500;heap 1 1 2 300;heap 2 1 0 70;crest 0 3;wall 0 5;lorry 0 3 1 1;spring 1 0 2 1;", "move=8;wear=3;over=9;", "wave 1 1 0 times 3;wave 2 2 1;");
        b.take(0, 2);
        b.sample(0, 0, 9);
        b.image();
        b.feed(1, 2, 3, 4, 5);
        b.wave(0, 1, 1, 0);
        String ahead = state(b);
        b.left(0, 0, 1, 1);
        b.which(0, 0);
        b.cost(0, 0, 0, 16, 1);
        b.cost(0, 0, 1, 0, 1);
        b.raised(0, 0, 2, 5, 0);
        b.brought(0, 0, 99, 0);
        b.last(0, 0, 0, 5);
        b.walls(0, 0, 2, 16, 1, 0);
        b.high(0, 0);
        due("by none of these", state(b).equals(ahead) ? 1 : 0, 1);
        int behind = b.left(0, 0, 1, 0);
        due("the same answer again", b.left(0, 0, 1, 0), behind);
        b.run(0, 0);
        due("which is what comes then", b.stones(1, 0, -1), behind);
        sentence("BY ONE: the stone (SIZE, STUFF) that, alone the HANDFUL, lets one know best where one is");
        String then = state(b);
        b.one(0);
        b.one(1);
        due("the HANDFUL stays", state(b).equals(then) ? 1 : 0, 1);
        refused(b, "another what", WRONG, () -> b.one(2));
    }

    private static void left() {
        sentence("LEFT: stones of a CELL and SIZE.");
        ShingleBank b = on("cells 3;sizes 3;heap 0 1 0 32;heap 0 1 2 32;heap 0 2 1 32;heap 2 1 1 5;", "move=if cell=0 then 8 else 0;wear=if size=2 then 8 else 0;", "wave 1 1 0;");
        int[][] want = {{0, 32, 16}, {0, 32 + 8, 8}, {0, 5, 0}};
        for (int c = 0; c < 3; c++) {
            for (int size = 0; size < 3; size++) {
                due("CELL " + c + ", SIZE " + size + ", all STUFF", b.left(0, 0, c, size), want[c][size]);
            }
        }
        due("nothing has moved yet", b.stones(0, -1, -1), 96);
        due("an empty LAW", Texts.law(b, ""), 1);
        due("a YEAR of two waves", Texts.year(b, "wave 1 1 0 times 2;"), 1);
        due("by another LAW", b.left(1, 0, 0, 1), 64);
        due("behind another YEAR: a half of a half", b.left(0, 1, 0, 1), 16);
    }

    private static void whichLaw() {
        sentence("WHICH LAW: told numbers (a SAMPLE: of CELLS and SIZES) lie nearest to what comes by it: of all LAWS that of the least sum of how far they are apart (told ones alone), of these the first.");
        ShingleBank b = new ShingleBank();
        Texts.beach(b, "cells 2;sizes 2;heap 0 0 0 16;heap 0 0 2 16;heap 0 1 1 16;");
        Texts.year(b, "wave 1 1 0;");
        due("NONE without LAWS", b.which(0, 0), -1);
        due("NONE without LAWS, apart", b.which(0, 1), -1);
        Texts.law(b, "move=2;");
        due("one: that", b.which(0, 0), 0);
        due("no number told: 0 apart", b.which(0, 1), 0);
        Texts.law(b, "move=4;");
        Texts.law(b, "move=6;");
        Texts.law(b, "move=if size=0 then 4 else 0;");
        due("no number told: of all the first", b.which(0, 0), 0);
        // behind it SIZE 0 of CELL 1 has 4, 8, 12, 8
        b.sample(1, 0, 8);
        due("of alike ones the first", b.which(0, 0), 1);
        due("0 apart", b.which(0, 1), 0);
        b.sample(1, 0, 6);
        due("2 and 2 apart: the first", b.which(0, 0), 0);
        due("apart", b.which(0, 1), 2);
        b.sample(1, 0, 7);
        due("one nearer", b.which(0, 0), 1);
        b.sample(1, 0, 11);
        due("one nearer to the next", b.which(0, 0), 2);
        b.sample(1, 0, 8);
        b.sample(0, 1, 16);
        due("both told: only the fourth", b.which(0, 0), 3);
        b.sample(0, 1, 15);
        due("both told: 1 by the fourth", b.which(0, 1), 1);
        b.sample(1, 0, 0);
        b.sample(0, 1, -1);
        due("0 is told, NONE is not", b.which(0, 1), 4);
        b.sample(1, 0, 999999);
        due("the greatest number", b.which(0, 0), 2);
        due("the greatest number, apart", b.which(0, 1), 999999 - 12);
        for (int i = 0; i < 4; i++) {
            b.sample(i / 2, i % 2, 999999);
        }
        due("all four of these", b.which(0, 1), 4 * 999999 - 48);
    }

    private static void cost() {
        sentence("A WALL behind a CELL of P COSTS another CELL so many stones (as many fewer as behind a YEAR as it is; may be less than 0).");
        ShingleBank b = on("cells 4;heap 0 1 0 160;heap 1 1 0 160;wall 1 8;", "move=16;");
        for (int p = 0; p <= 16; p++) {
            due("a new wall of " + p, b.cost(0, 0, 0, p, 1), 160 * p / 16);
            due("it itself", b.cost(0, 0, 0, p, 0), -(160 * p / 16));
            due("instead of the one that is there, " + p, b.cost(0, 0, 1, p, 2), 160 * p / 16 - 80);
            due("one that has no part in it", b.cost(0, 0, 2, p, 0), 0);
        }
    }

    private static void raised() {
        sentence("RAISED: of all sets of k CELLS (1 to 3) that whose crests, m higher (1 to 20), leave the fewest OVERS behind a YEAR, of these the least by bits.");
        // of 21 each crest of 20 is gone over once; one higher is enough
        ShingleBank b = on("cells 5;", "over=21;");
        due("one, of alike ones the least", b.raised(0, 0, 1, 1, 0), 1);
        due("two", b.raised(0, 0, 2, 1, 0), 3);
        due("three", b.raised(0, 0, 3, 1, 0), 7);
        for (int k = 1; k <= 3; k++) {
            due("OVERS then, " + k, b.raised(0, 0, k, 1, 1), 5 - k);
            due("OVERS then, 20 higher, " + k, b.raised(0, 0, k, 20, 1), 5 - k);
        }
        ShingleBank high = on("cells 3;crest 0 1;crest 1 2;", "over=if cell<2 then 22 else 0;");
        due("21 higher would be needed: 1 and 20 are not enough", high.raised(0, 0, 1, 20, 0), 2);
        due("OVERS then", high.raised(0, 0, 1, 20, 1), 1);
        due("19 higher helps none", high.raised(0, 0, 1, 19, 0), 1);
        due("OVERS then", high.raised(0, 0, 3, 19, 1), 2);
        ShingleBank two = on("cells 2;", "over=if cell=1 then 21 else 0;");
        due("the last of two", two.raised(0, 0, 1, 1, 0), 2);
        due("both of two", two.raised(0, 0, 2, 1, 0), 3);
        refused(two, "three of two", WRONG, () -> two.raised(0, 0, 3, 1, 0));
        // by 20, 21, 20: crests of 20 and 19 are gone over 2 and 3 times, those of 21 and 20 never and twice
        ShingleBank down = on("cells 2;crest 1 19;", "over=if height=2 then 21 else 20;", "wave 1 1 0;wave 2 1 0;wave 1 1 0;");
        due("a crest is lower behind each OVER: 2 and 3", down.raised(0, 0, 1, 1, 1), 0 + 3);
        due("both", down.raised(0, 0, 2, 1, 1), 0 + 2);
        ShingleBank twelve = on("cells 12;", "over=if cell>8 then 21 else 0;");
        due("the last three of twelve", twelve.raised(0, 0, 3, 1, 0), 7 << 9);
        due("of these the least two", twelve.raised(0, 0, 2, 1, 0), 3 << 9);
        due("none is left", twelve.raised(0, 0, 3, 1, 1), 0);
        sentence("1 OVERS then (those of the YEAR alone)");
        b.wave(0, 1, 1, 0);
        due("OVERS so far do not count: crests are 19", b.raised(0, 0, 3, 2, 1), 2);
        due("OVERS so far", b.cell(0, 2), 1);
    }

    private static void brought() {
        sentence("BROUGHT: of all CELLS from which N stones are brought (at once, as by a lorry) to another CELL the two behind which IN ORDER is the most behind a YEAR, of these the first (whence, then whither; nothing brought, if none is better).");
        ShingleBank alone = on("cells 3;heap 0 1 0 4;");
        due("from the first to the next one: two in order", alone.brought(0, 0, 1, 0), 1);
        due("IN ORDER then", alone.brought(0, 0, 1, 1), 1);
        due("as many as there are: none is better", alone.brought(0, 0, 4, 0), -1);
        due("more than there are", alone.brought(0, 0, 999, 0), -1);
        due("IN ORDER as it is", alone.brought(0, 0, 999, 1), 0);
        due("one less than there are", alone.brought(0, 0, 3, 0), 1);
        ShingleBank none = on("cells 3;");
        due("of nothing none is better", none.brought(0, 0, 1, 0), -1);
        due("of nothing", none.brought(0, 0, 1, 1), 0);
        ShingleBank best = on("cells 2;heap 0 0 0 1;heap 1 1 0 1;");
        due("as good as can be", best.brought(0, 0, 1, 0), -1);
        due("as good as can be", best.brought(0, 0, 1, 1), 1);
        ShingleBank middle = on("cells 3;heap 1 1 0 4;");
        due("from the one between: the first way is ahead", middle.brought(0, 0, 1, 0), 100);
        ShingleBank end = on("cells 3;heap 2 1 0 4;");
        due("from the last one: to the first", end.brought(0, 0, 1, 0), 200);
        // the greatest SIZES go first: MEANS 1000 and 500 turn round by one
        ShingleBank greatest = on("cells 2;heap 0 1 0 2;heap 1 0 0 1;heap 1 1 0 1;");
        due("both of them: CELL 0 is without stones, and none is in order", greatest.brought(0, 0, 2, 0), -1);
        due("one: 1000 and 666", greatest.brought(0, 0, 1, 0), -1);
        ShingleBank mixed = on("cells 2;heap 0 0 0 1;heap 0 1 0 1;heap 1 0 0 1;");
        due("the greater one goes on: 0 and 500", mixed.brought(0, 0, 1, 0), 1);
        ShingleBank twelve = on("cells 12;heap 11 1 0 2;");
        due("whence has two digits", twelve.brought(0, 0, 1, 0), 1100);
        ShingleBank last = on("cells 12;heap 10 1 0 2;heap 11 0 0 1;");
        due("IN ORDER then", last.brought(0, 0, 1, 1), 1);
        due("whence and whither", last.brought(0, 0, 1, 0), 1000);
    }

    private static void sums() {
        sentence("SUMS: stones at first and put, come by springs, SAND, BEHIND, sold.");
        ShingleBank b = on("cells 2;heap 0 0 0 9999;heap 0 0 0 32;heap 1 1 1 16;spring 1 0 0 5;lorry 1 2 6 3;crest 0 1;", "move=4;wear=8;over=if cell=0 then 2 else 0;");
        due("told in heaps, the last alone", b.sums(0), 48);
        b.put(0, 0, 0, 16);
        due("put", b.sums(0), 64);
        for (int what = 1; what <= 4; what++) {
            due("nothing as yet, " + what, b.sums(what), 0);
        }
        b.wave(0, 1, 1, 0);
        // of 48 12 MOVED and 6 of these are SAND, of 36 left 2 go BEHIND; of 16 4 MOVED and 2 are worn
        due("come", b.sums(1), 5);
        due("SAND", b.sums(2), 6);
        due("BEHIND", b.sums(3), 2);
        due("sold", b.sums(4), 0);
        b.wave(0, 1, 1, 0);
        b.wave(0, 1, 1, 0);
        due("sold in the third HOUR", b.sums(4), 6);
        due("come", b.sums(1), 15);
        due("nothing else comes or goes", b.sums(0) + b.sums(1) - b.sums(2) - b.sums(3) - b.sums(4), b.stones(-1, -1, -1));
    }

    private static void last() {
        sentence("LAST: behind how many times a YEAR by a LAW (0 to 20) a CELL has fewer than n stones for the first time; NONE: not by 20, or not as HOURS end (a YEAR that HOURS cut is one).");
        ShingleBank b = on("cells 2;heap 0 0 0 100;lorry 0 2 1 1;");
        for (int times = 0; times <= 20; times++) {
            due("behind " + times, b.last(0, 0, 0, 101 - times), times);
        }
        due("by 21", b.last(0, 0, 0, 80), -1);
        due("of a CELL without stones, at once", b.last(0, 0, 1, 1), 0);
        due("the greatest n, at once", b.last(0, 0, 0, 999999), 0);
        ShingleBank back = on("cells 2;heap 0 0 0 10;lorry 0 1 10 1;lorry 1 0 10 2;");
        due("for the first time: it comes back each other YEAR", back.last(0, 0, 0, 10), 1);
        ShingleBank within = on("cells 2;heap 0 0 0 10;lorry 0 1 10 3;lorry 1 0 10 4;", "", "wave 1 1 0 times 4;");
        due("only behind a YEAR, not within: there it is always back", within.last(0, 0, 0, 10), -1);
        ShingleBank hours = on("cells 2;heap 0 0 0 700;lorry 0 2 1 1;", "", YEAR_OF_180);
        due("behind the third YEAR", hours.last(0, 0, 0, 700 - 539), 3);
        due("behind the one that HOURS cut", hours.last(0, 0, 0, 700 - 540), 4);
        due("behind the one that HOURS cut, its last HOUR", hours.last(0, 0, 0, 700 - 599), 4);
        due("not as HOURS end", hours.last(0, 0, 0, 700 - 600), -1);
        hours.run(0, 0);
        due("from where it is", hours.last(0, 0, 0, 700 - 180), 1);
        due("from where it is, cut", hours.last(0, 0, 0, 700 - 599), 3);
        due("not as HOURS end", hours.last(0, 0, 0, 700 - 600), -1);
        pass(hours, 0, 0, 419);
        due("one HOUR more", hours.last(0, 0, 0, 700 - 599), 1);
        due("none more", hours.last(0, 0, 0, 700 - 600), -1);
        due("at once", hours.last(0, 0, 0, 700 - 598), 0);
        ShingleBank even = on("cells 2;heap 0 0 0 700;lorry 0 2 1 1;", "", many("wave 1 1 0 times 6;", 20));
        due("HOURS end with a YEAR", even.last(0, 0, 0, 700 - 599), 5);
        due("not as they end", even.last(0, 0, 0, 700 - 600), -1);
    }

    private static void like() {
        sentence("LIKE: of two CELLS how far SHARES of each SIZE and STUFF are apart, all together.");
        ShingleBank b = on("cells 6;heap 0 0 0 1;heap 1 0 0 9;heap 2 0 1 1;heap 3 1 0 1;heap 4 0 0 2;heap 4 0 1 1;");
        due("itself", b.like(4, 4), 0);
        due("alike by SHARES", b.like(0, 1), 0);
        due("another STUFF", b.like(0, 2), 2000);
        due("another SIZE", b.like(0, 3), 2000);
        due("as cut as SHARES are: 1000 less 666, and 333", b.like(0, 4), 334 + 333);
        due("the other way", b.like(4, 0), 334 + 333);
        due("one without stones", b.like(4, 5), 999);
        due("the other without stones", b.like(5, 4), 999);
        due("two without stones", on("cells 2;").like(0, 1), 0);
    }

    private static void wallSets() {
        sentence("WALLS: of all sets of k (1 to 3) CELLS (not the last one) with walls of P behind each of them (others as they are) that by which a CELL has most stones behind a YEAR, of these the least by bits.");
        ShingleBank b = on("cells 5;heap 0 0 0 16;heap 1 0 0 16;heap 2 0 0 16;heap 3 0 0 16;wall 3 16;", "move=16;");
        due("one behind it", b.walls(0, 0, 1, 16, 1, 0), 2);
        due("stones then", b.walls(0, 0, 1, 16, 1, 1), 32);
        due("P 1", b.walls(0, 0, 1, 1, 1, 1), 17);
        due("two: the least by bits", b.walls(0, 0, 2, 16, 1, 0), 6);
        due("three: the least by bits", b.walls(0, 0, 3, 16, 1, 0), 14);
        due("of alike ones the least: CELL 3 has its wall anyway", b.walls(0, 0, 1, 16, 3, 0), 1);
        due("others as they are", b.walls(0, 0, 1, 16, 3, 1), 32);
        due("a lesser one instead of it is avoided", b.walls(0, 0, 3, 1, 3, 0), 7);
        due("the last CELL: the wall of CELL 3 less", b.walls(0, 0, 1, 1, 4, 0), 8);
        due("the last CELL: stones then", b.walls(0, 0, 1, 1, 4, 1), 15);
        ShingleBank twelve = on("cells 12;heap 10 0 0 16;", "move=16;");
        due("the last but one of twelve", twelve.walls(0, 0, 1, 16, 10, 0), 1 << 10);
        due("and the least of the others", twelve.walls(0, 0, 3, 16, 10, 0), (1 << 10) + 3);
        ShingleBank two = on("cells 2;heap 0 0 0 16;", "move=16;");
        due("the only one", two.walls(0, 0, 1, 8, 0, 0), 1);
        due("stones then", two.walls(0, 0, 1, 8, 0, 1), 8);
        refused(two, "two of one", WRONG, () -> two.walls(0, 0, 2, 8, 0, 0));
    }

    private static void high() {
        sentence("HIGH: the least m (0 to 100) so that, all crests m higher, a YEAR has no OVER.");
        for (int over : new int[]{0, 19, 20, 21, 22, 119, 120, 121, 9999}) {
            int m = Math.max(0, over - 20);
            due("over " + over, on("cells 2;", "over=" + over + ";").high(0, 0), m > 100 ? -1 : m);
        }
        due("all crests: the last CELL tells", on("cells 12;crest 11 1;", "over=10;").high(0, 0), 9);
        due("by the crest as it is then: 20 and 10 are not less than 30", on("cells 2;", "over=30-(crest-20);").high(0, 0), 5);
        due("not by any", on("cells 2;", "over=crest+1;").high(0, 0), -1);
        due("only where m is 100", on("cells 2;", "over=if crest=120 then 0 else 9999;").high(0, 0), 100);
        due("only where m is 0", on("cells 2;", "over=if crest=20 then 0 else 9999;").high(0, 0), 0);
        due("one of the waves", on("cells 2;", "over=height*beat;", "wave 1 1 0 times 9;wave 5 5 0;wave 1 1 1;").high(0, 0), 5);
    }

    private static void byOne() {
        sentence("of all with a WORD above 0 that with the least how far (of NEAR), of these the first (by SIZE, then STUFF).");
        ShingleBank none = on("cells 2;");
        due("no stone", none.one(0), -1);
        due("no stone, how far", none.one(1), -1);
        due("without a BEACH", new ShingleBank().one(0), -1);
        for (int size = 0; size < 6; size++) {
            for (int stuff = 0; stuff < 3; stuff++) {
                ShingleBank b = on("cells 2;sizes 6;heap 1 " + size + " " + stuff + " 1;");
                due("the only one", b.one(0), 10 * size + stuff);
                due("the only one, how far", b.one(1), 0);
            }
        }
        ShingleBank alike = on("cells 2;sizes 2;heap 0 1 0 1;heap 0 1 2 1;heap 0 0 2 1;");
        due("of alike ones by SIZE, then STUFF", alike.one(0), 2);
        alike.put(1, 0, 2, 1);
        due("that one is in two CELLS: the next", alike.one(0), 10);
        ShingleBank tiny = on("cells 2;heap 0 0 0 1;heap 0 1 0 999;heap 1 1 0 1;");
        due("a SHARE of 1 is a WORD", tiny.one(0), 0);
        tiny.put(0, 1, 0, 1);
        due("a SHARE of 0 is none", tiny.one(0), 10);
        due("how far: 999 by 1,999", tiny.one(1), 499);
    }

    private static void seen() {
        sentence("SEEN: how many PAINTED there must be in a CELL at least, that n are FOUND there with s of 16.");
        ShingleBank b = new ShingleBank();
        for (int s = 1; s <= 16; s++) {
            for (int n : new int[]{1, 2, 3, 15, 16, 17, 998, 999}) {
                ShingleBank fresh = s == 1 && n == 1 ? b : new ShingleBank();
                int seen = fresh.seen(n, s);
                due("so many are enough, " + n + " with " + s, seen * s / 16 >= n ? 1 : 0, 1);
                due("one less is not, " + n + " with " + s, (seen - 1) * s / 16 < n ? 1 : 0, 1);
            }
        }
        ShingleBank beach = on("cells 2;heap 0 0 2 " + b.seen(3, 5) + ";heap 1 0 2 " + (b.seen(3, 5) - 1) + ";");
        due("as FOUND has it: 3 and 2", beach.found(0, 5), 5);
    }
}
