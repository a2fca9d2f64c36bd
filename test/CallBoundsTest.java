/** Promises 1 to 44: each sentence that names a boundary, at it and one step beyond. */
public final class CallBoundsTest extends Sentences {
    private static final String YEAR_OF_180 = many("wave 1 1 0 times 9;", 20);

    public static void main(String[] args) {
        life();
        newObject();
        feed();
        beach();
        law();
        year();
        fault();
        told();
        stones();
        cell();
        put();
        says();
        waves();
        lots();
        meansAndSounds();
        orderAndHorns();
        hand();
        where();
        painted();
        look();
        left();
        sample();
        which();
        cost();
        raised();
        brought();
        sums();
        last();
        like();
        walls();
        high();
        one();
        seen();
        image();
        imageOfAll();
        restore();
        status();
        count();
        needPromises(1, 44);
        end();
    }

    private static ShingleBank withoutBeach() {
        ShingleBank b = new ShingleBank();
        due("a LAW", b.law(0), 0);
        due("a YEAR", Texts.year(b, "wave 1 1 0;"), 0);
        return b;
    }

    private static ShingleBank at600() {
        ShingleBank b = on("cells 3;heap 0 0 0 9;");
        pass(b, 0, 0, 600);
        return b;
    }

    // ---- objects, texts ----

    private static void life() {
        sentence("An object is used for at most 512 calls after it has been made");
        ShingleBank b = new ShingleBank();
        // 3 calls tell the texts, 508 more are waves, puts and asked ones; then the 512th
        due("cells 2;", b.feed(0x63656c6c, 0x7320323b, 0, 0, 0), 20);
        due("a BEACH", b.beach(8), 2);
        due("a LAW", b.law(0), 0);
        for (int i = 0; i < 254; i++) {
            b.wave(0, 1, 1, 0);
            b.put(0, 0, 0, 999);
        }
        due("the 512th call", b.stones(0, -1, -1), 254 * 999);
        ShingleBank images = new ShingleBank();
        for (int i = 0; i < 256; i++) {
            due("image " + i, images.image(), 1);
            due("restore " + i, images.restore(), 0);
        }
        ShingleBank refusing = new ShingleBank();
        for (int i = 0; i < 510; i++) {
            try {
                refusing.mean(0);
            } catch (IndexOutOfBoundsException e) {
                continue;
            }
            due("a mean without a BEACH", 1, 0);
        }
        due("511 calls: all 510 are counted", refusing.status(0), 510);
        due("the 512th call", refusing.status(1), 0);
    }

    private static void newObject() {
        sentence("`ShingleBank()`: No BEACH.");
        ShingleBank b = new ShingleBank();
        for (int what = 0; what <= 6; what++) {
            due("told " + what, b.told(what), 0);
        }
        for (int what = 0; what <= 3; what++) {
            due("count " + what, b.count(what), 0);
            due("status " + what, b.status(what), 0);
        }
        for (int what = 0; what <= 4; what++) {
            due("sums " + what, b.sums(what), 0);
        }
        due("no FAULT", b.fault(), -1);
        due("all stones", b.stones(-1, -1, -1), 0);
        due("of a STUFF", b.stones(-1, -1, 2), 0);
        refused(b, "of a CELL", OUTSIDE, () -> b.stones(0, -1, -1));
        refused(b, "of a SIZE", WRONG, () -> b.stones(-1, 0, -1));
        refused(b, "put", OUTSIDE, () -> b.put(0, 0, 0, 1));
        refused(b, "take", WRONG, () -> b.take(0, 0));
        refused(b, "sample", OUTSIDE, () -> b.sample(0, 0, 0));
        refused(b, "look", WRONG, () -> b.look(0, 1, 0));
        refused(b, "wave without a LAW", MISSING, () -> b.wave(0, 1, 1, 0));
        due("no HORN", b.horn(0), -1);
        due("seen", b.seen(1, 1), 16);
    }

    private static void feed() {
        sentence("Twenty bytes come on the TAPE, of each number the highest first: how many there are; NONE, doing nothing, if there would be more than 600.");
        ShingleBank b = new ShingleBank();
        for (int i = 1; i <= 30; i++) {
            due("feed " + i, b.feed(0x20202020, 0x20202020, 0x20202020, 0x20202020, i == 30 ? 0x20202078 : 0x20202020), 20 * i);
        }
        due("620 would be more", b.feed(0x78787878, 0, 0, 0, 0), -1);
        due("it did nothing", b.count(2), 600);
        due("nothing at the tape's begin: the first FAULT is its last byte", b.beach(600), -9);
        due("the last byte", b.fault(), 599);
        due("empty: there is room again", b.feed(0, 0, 0, 0, 0), 20);
        due("the least and the greatest numbers", b.feed(MIN, MAX, -1, 0, 1), 40);
        due("their bytes: 128", b.beach(40), -9);
        int[] shifts = {24, 16, 8, 0};
        for (int number = 0; number < 5; number++) {
            for (int i = 0; i < 4; i++) {
                int[] n = {0x20202020, 0x20202020, 0x20202020, 0x20202020, 0x20202020};
                n[number] ^= 0x80 << shifts[i];
                b.feed(n[0], n[1], n[2], n[3], n[4]);
                due("a byte above 127", b.beach(20), -9);
                due("byte " + i + " of number " + number, b.fault(), 4 * number + i);
            }
        }
    }

    private static void beach() {
        sentence("The first n bytes of the TAPE (empty then) are the BEACH (HOURS, SUMS, the SAMPLE, the HANDFUL, IMAGES as at first; LAWS, YEARS stay): how many CELLS");
        ShingleBank b = on("cells 3;heap 0 0 2 40;spring 0 0 0 1;lorry 0 3 1 1;crest 0 1;", "move=8;wear=8;over=2;", YEAR_OF_180);
        b.wave(0, 1, 1, 0);
        b.put(0, 0, 0, 5);
        b.take(0, 2);
        b.sample(2, 3, 7);
        b.image();
        Texts.feed(b, "cells 2;cells 2;cells 2;");
        due("only the first n", b.beach(8), 2);
        due("TAPE", b.count(2), 0);
        due("HOURS", b.told(6), 0);
        for (int what = 0; what <= 4; what++) {
            due("SUMS " + what, b.sums(what), 0);
        }
        due("SAMPLE", b.count(3), 0);
        due("HANDFUL", b.count(0), 0);
        due("IMAGES", b.count(1), 0);
        due("no IMAGE comes back", b.restore(), -1);
        due("LOST", b.lost(), 0);
        due("OVERS", b.cell(0, 2), 0);
        due("LAWS", b.told(4), 1);
        due("YEARS", b.told(5), 1);
        due("they are as they were", b.run(0, 0), 180);
        due("n 0: the document's own BEACH", b.beach(0), 6);
        due("n 0 of a full TAPE", feedAll(b).beach(0), 6);
        due("TAPE", b.count(2), 0);
        due("SAMPLE of another BEACH", sampleOfAnother(), -1);
        nothingOfTheFormerOne();
        sentence("or the FAULT less 10 (all but the TAPE stays).");
        ShingleBank c = on("cells 3;heap 0 0 2 40;spring 0 0 0 1;lorry 0 3 1 1;crest 0 1;wall 1 5;", "move=8;wear=8;over=2;");
        c.wave(0, 1, 1, 0);
        c.take(0, 2);
        c.sample(2, 3, 7);
        c.image();
        String[] faults = {"cells 12;x", "cells 12;cells 13;", many("wall 0 1;", 61), "cells 12;heap 12 0 0 1;"};
        int[] kinds = {1, 4, 3, 2};
        for (int i = 0; i < 4; i++) {
            due("FAULT", Texts.beach(c, faults[i]), kinds[i] - 10);
            due("TAPE", c.count(2), 0);
            due("CELLS", c.told(0), 3);
            due("SIZES", c.told(1), 4);
            due("springs", c.told(2), 1);
            due("lorries", c.told(3), 1);
            due("HOURS", c.told(6), 1);
            due("crest", c.cell(0, 0), 1);
            due("wall", c.cell(1, 1), 5);
            due("OVERS", c.cell(0, 2), 1);
            due("HANDFUL", c.count(0), 1);
            due("IMAGES", c.count(1), 1);
            due("SAMPLE", c.count(3), 1);
        }
        due("springs go on", c.wave(0, 1, 1, 0) > 0 ? c.sums(1) : 0, 2);
        sentence("IllegalArgumentException: n is not 0 to the TAPE's bytes (it stays).");
        ShingleBank d = new ShingleBank();
        refused(d, "1 of 0", WRONG, () -> d.beach(1));
        refused(d, "-1 of 0", WRONG, () -> d.beach(-1));
        Texts.feed(d, "cells 3;x");
        refused(d, "21 of 20", WRONG, () -> d.beach(21));
        refused(d, "-1", WRONG, () -> d.beach(-1));
        refused(d, "the greatest", WRONG, () -> d.beach(MAX));
        refused(d, "the least", WRONG, () -> d.beach(MIN));
        due("it stays", d.count(2), 20);
        due("20 of 20", d.beach(20), -9);
        due("FAULT", d.fault(), 8);
        refused(d, "8 of 0", WRONG, () -> d.beach(8));
        due("the FAULT stays", d.fault(), 8);
    }

    private static ShingleBank feedAll(ShingleBank b) {
        while (b.feed(0x78787878, 0x78787878, 0x78787878, 0x78787878, 0x78787878) >= 0) {
            if (b.count(2) > 600) {
                due("the TAPE", b.count(2), 600);
            }
        }
        return b;
    }

    private static int sampleOfAnother() {
        ShingleBank b = on("cells 12;sizes 6;");
        b.sample(11, 5, 9);
        Texts.beach(b, "cells 2;sizes 2;");
        Texts.beach(b, "cells 12;sizes 6;");
        return b.sample(11, 5, 0);
    }

    /** Neither of the one ahead nor of one that was faulty. */
    private static void nothingOfTheFormerOne() {
        String full = "cells 12;sizes 6;heap 11 5 2 9;heap 1 1 1 9;crest 1 5;crest 11 6;wall 0 7;wall 1 8;" + many("spring 1 1 1 2;", 7) + many("lorry 1 0 3 1;", 3);
        ShingleBank b = new ShingleBank();
        for (int round = 0; round < 3; round++) {
            due("a BEACH of all there is", Texts.beach(b, full), 12);
            due("its springs", b.told(2), 7);
            due("its lorries", b.told(3), 3);
            due("a faulty one", Texts.beach(b, full + "x"), -9);
            if (round == 1) {
                due("another faulty one", Texts.beach(b, full + many("spring 1 1 1 2;", 2)), -7);
            }
            due("a BEACH of nothing", b.beach(0), 6);
            due("SIZES", b.told(1), 4);
            due("springs", b.told(2), 0);
            due("lorries", b.told(3), 0);
            due("stones", b.stones(-1, -1, -1), 0);
            due("SUMS", b.sums(0), 0);
            for (int c = 0; c < 6; c++) {
                due("crest " + c, b.cell(c, 0), 20);
                due("wall " + c, b.cell(c, 1), 0);
            }
            due("8 springs have room", Texts.beach(b, many("spring 1 1 1 2;", 8) + many("lorry 1 0 3 1;", 4)), 6);
            due("cells and sizes may be told", Texts.beach(b, "sizes 6;cells 12;heap 11 5 0 1;"), 12);
        }
    }

    private static void law() {
        sentence("Likewise a LAW: its number, from 0 on; or the FAULT less 10; -1: there are 4 (ahead of reading it; the TAPE is empty then, too, no FAULT).");
        ShingleBank b = new ShingleBank();
        refused(b, "1 of 0", WRONG, () -> b.law(1));
        refused(b, "-1 of 0", WRONG, () -> b.law(-1));
        for (int i = 0; i < 4; i++) {
            due("LAW " + i, Texts.law(b, "move=" + (i + 5) + ";"), i);
            due("so many", b.told(4), i + 1);
            due("TAPE", b.count(2), 0);
            if (i < 3) {
                due("a faulty one", Texts.law(b, "move=" + i), -9);
                due("is none", b.told(4), i + 1);
                due("its FAULT", b.fault(), 6);
                due("TAPE", b.count(2), 0);
            }
        }
        Texts.year(b, "x");
        due("there is a FAULT", b.fault(), 0);
        due("a fifth", Texts.law(b, "move=1;"), -1);
        due("no FAULT", b.fault(), -1);
        due("TAPE", b.count(2), 0);
        due("a fifth that is faulty", Texts.law(b, "move=x;"), -1);
        due("no FAULT", b.fault(), -1);
        due("TAPE", b.count(2), 0);
        due("a fifth of nothing", b.law(0), -1);
        Texts.feed(b, "move=1;");
        refused(b, "21 of 20, though there are 4", WRONG, () -> b.law(21));
        refused(b, "-1, though there are 4", WRONG, () -> b.law(-1));
        due("it stays", b.count(2), 20);
        due("so many", b.told(4), 4);
        Texts.beach(b, "");
        for (int i = 0; i < 4; i++) {
            due("LAW " + i + " is as told", b.says(i, 0, 0, 0, 0, 1, 1, 0), i + 5);
        }
        ShingleBank again = new ShingleBank();
        for (int i = 0; i < 9; i++) {
            due("a long one that is faulty", Texts.law(again, "over=9;move=1" + many("+1", 280) + "x"), -9);
        }
        due("a long one that is not", Texts.law(again, "move=1" + many("+1", 296) + ";"), 0);
        Texts.beach(again, "");
        due("it is worked to its end", again.says(0, 0, 0, 0, 0, 1, 1, 0), 297);
        due("and nothing of the faulty ones", again.says(0, 2, 0, 0, 0, 1, 1, 0), 0);
        for (int i = 0; i < 9; i++) {
            due("a faulty one in which six are open", Texts.law(again, "move=((((((x"), -9);
            due("a faulty one that tells all three", Texts.law(again, "over=1;wear=1;move=if not [1"), -9);
        }
        due("six may be open", Texts.law(again, "move=((((((1))))));over=2;wear=3;"), 1);
        ShingleBank first = new ShingleBank();
        Texts.feed(first, "move=7;x");
        due("only the first n bytes", first.law(7), 0);
    }

    private static void year() {
        sentence("Likewise a YEAR; -1: there are 4 (likewise).");
        ShingleBank b = new ShingleBank();
        refused(b, "1 of 0", WRONG, () -> b.year(1));
        refused(b, "-1 of 0", WRONG, () -> b.year(-1));
        for (int i = 0; i < 4; i++) {
            due("YEAR " + i, Texts.year(b, "wave 1 1 0 times " + (i + 1) + ";"), i);
            due("so many", b.told(5), i + 1);
            due("TAPE", b.count(2), 0);
            if (i < 3) {
                due("a faulty one", Texts.year(b, "wave 1 1 0"), -9);
                due("is none", b.told(5), i + 1);
                due("its FAULT", b.fault(), 10);
            }
        }
        Texts.law(b, "x");
        due("there is a FAULT", b.fault(), 0);
        due("a fifth", Texts.year(b, "wave 1 1 0;"), -1);
        due("no FAULT", b.fault(), -1);
        due("TAPE", b.count(2), 0);
        due("a fifth that is faulty", Texts.year(b, "wave 99 1 0;"), -1);
        due("no FAULT", b.fault(), -1);
        due("TAPE", b.count(2), 0);
        due("a fifth of nothing", b.year(0), -1);
        due("no FAULT", b.fault(), -1);
        ShingleBank again = new ShingleBank();
        for (int i = 0; i < 9; i++) {
            due("a long one that is faulty", Texts.year(again, many("wave 1 1 0 times 9;", 19) + "x"), -9);
        }
        due("20 waves have room", Texts.year(again, many("wave 2 1 0;", 20)), 0);
        due("a LAW", again.law(0), 0);
        due("a BEACH", again.beach(0), 6);
        due("and nothing of the faulty ones", again.run(0, 0), 20);
        Texts.feed(b, "wave 1 1 0;");
        refused(b, "21 of 20, though there are 4", WRONG, () -> b.year(21));
        due("it stays", b.count(2), 20);
        Texts.beach(b, "");
        b.law(0);
        for (int i = 0; i < 4; i++) {
            due("YEAR " + i + " is as told", b.run(0, i), i + 1);
        }
    }

    private static void fault() {
        sentence("The place of the FAULT of the latest text; NONE without.");
        ShingleBank b = new ShingleBank();
        due("without a text", b.fault(), -1);
        due("a fine BEACH", Texts.beach(b, "cells 3;"), 3);
        due("NONE without", b.fault(), -1);
        due("a faulty LAW", Texts.law(b, "m"), -9);
        due("the first byte", b.fault(), 0);
        due("a faulty YEAR", Texts.year(b, padded("wave 1 1 0;", 599) + "!"), -9);
        due("the last byte", b.fault(), 599);
        due("a fine YEAR", Texts.year(b, "wave 1 1 0;"), 0);
        due("NONE without", b.fault(), -1);
        due("an early end of 600 bytes", Texts.year(b, padded("wave 1 1 0", 600)), -9);
        due("its length", b.fault(), 600);
        b.image();
        due("a fine LAW", b.law(0), 0);
        b.restore();
        due("no IMAGE keeps it", b.fault(), -1);
        due("a faulty BEACH of no bytes there is none, a YEAR there is", b.year(0), -9);
        due("its length", b.fault(), 0);
        refused(b, "a text that is not read", WRONG, () -> b.law(1));
        due("it stays", b.fault(), 0);
    }

    private static String padded(String text, int length) {
        return text + many(" ", length - text.length());
    }

    private static void told() {
        sentence("0 CELLS, 1 SIZES (0 without a BEACH), 2 springs, 3 lorries, 4 LAWS, 5 YEARS, 6 HOURS. IllegalArgumentException: another what (so below).");
        ShingleBank b = new ShingleBank();
        due("CELLS without a BEACH", b.told(0), 0);
        due("SIZES without a BEACH", b.told(1), 0);
        for (int what : new int[]{-1, 7, MIN, MAX}) {
            refused(b, "what " + what, WRONG, () -> b.told(what));
        }
        due("by a faulty one neither", Texts.beach(b, "cells 3;x") + b.told(0) + b.told(1), -9);
        ShingleBank c = on("cells 12;sizes 6;" + many("spring 0 0 0 1;", 8) + many("lorry 0 1 1 1;", 4));
        int[] want = {12, 6, 8, 4, 1, 1, 0};
        for (int what = 0; what <= 6; what++) {
            due("told " + what, c.told(what), want[what]);
        }
        pass(c, 0, 0, 600);
        due("HOURS", c.told(6), 600);
    }

    // ---- the beach as it is ----

    private static void stones() {
        sentence("Stones of a CELL, SIZE, STUFF (NONE for one of these: of all). IndexOutOfBoundsException: no such CELL (so below; ahead of others, of which the one that stands first there goes first). IllegalArgumentException: no such SIZE, STUFF (so below).");
        ShingleBank b = on("cells 2;sizes 2;heap 0 0 0 1;heap 0 1 2 10;heap 1 0 0 100;heap 1 1 2 1000;");
        due("the first", b.stones(0, 0, 0), 1);
        due("the last", b.stones(1, 1, 2), 1000);
        due("of all CELLS", b.stones(-1, 1, 2), 1010);
        due("of all SIZES", b.stones(1, -1, 2), 1000);
        due("of all STUFF", b.stones(1, 0, -1), 100);
        due("of all", b.stones(-1, -1, -1), 1111);
        for (int cell : new int[]{2, -2, MIN, MAX}) {
            refused(b, "CELL " + cell, OUTSIDE, () -> b.stones(cell, 0, 0));
            refused(b, "CELL " + cell + " ahead of SIZE and STUFF", OUTSIDE, () -> b.stones(cell, 9, 9));
        }
        for (int size : new int[]{2, -2, MIN, MAX}) {
            refused(b, "SIZE " + size, WRONG, () -> b.stones(0, size, 0));
        }
        for (int stuff : new int[]{3, -2, MIN, MAX}) {
            refused(b, "STUFF " + stuff, WRONG, () -> b.stones(-1, -1, stuff));
        }
    }

    private static void cell() {
        sentence("Of a CELL: 0 its crest, 1 the wall behind it (0 without), 2 OVERS so far.");
        ShingleBank b = on("cells 2;wall 0 16;crest 1 2;", "over=3;");
        due("wall", b.cell(0, 1), 16);
        due("wall without", b.cell(1, 1), 0);
        b.wave(0, 1, 1, 0);
        b.wave(0, 1, 1, 0);
        due("crest", b.cell(1, 0), 1);
        due("OVERS", b.cell(1, 2), 2);
        due("OVERS of another", b.cell(0, 2), 0);
        refused(b, "CELL 2", OUTSIDE, () -> b.cell(2, 0));
        refused(b, "CELL NONE", OUTSIDE, () -> b.cell(-1, 0));
        refused(b, "CELL ahead of what", OUTSIDE, () -> b.cell(2, 3));
        refused(b, "what 3", WRONG, () -> b.cell(1, 3));
        refused(b, "what -1", WRONG, () -> b.cell(1, -1));
    }

    private static void put() {
        sentence("Stones are put (1 to 999): how many of these there are then. IllegalArgumentException: also so many.");
        ShingleBank b = on("cells 2;sizes 2;heap 1 1 2 9999;");
        due("1", b.put(1, 1, 2, 1), 10000);
        due("999", b.put(1, 1, 2, 999), 10999);
        due("999, of none", b.put(0, 0, 0, 999), 999);
        for (int n : new int[]{0, 1000, -1, MIN, MAX}) {
            refused(b, n + " stones", WRONG, () -> b.put(0, 0, 0, n));
        }
        refused(b, "CELL ahead of so many", OUTSIDE, () -> b.put(2, 0, 0, 0));
        refused(b, "SIZE", WRONG, () -> b.put(0, 2, 0, 1));
        refused(b, "SIZE NONE", WRONG, () -> b.put(0, -1, 0, 1));
        refused(b, "STUFF", WRONG, () -> b.put(0, 0, 3, 1));
        refused(b, "STUFF NONE", WRONG, () -> b.put(0, 0, -1, 1));
        due("none was put then", b.stones(-1, -1, -1), 10999 + 999);
        due("nor counted", b.sums(0), 10999 + 999);
        pass(b, 0, 0, 600);
        due("behind all HOURS too", b.put(0, 0, 0, 1), 1000);
    }

    private static void says() {
        sentence("What a LAW says of a WAVE (0 move, 1 wear, not held; 2 over), for a CELL, SIZE, STUFF as it is.");
        ShingleBank b = on("cells 2;sizes 2;heap 0 0 0 4;heap 0 1 1 12;crest 0 60;", "move=9999*height;wear=0-9999*beat;over=crest*100+from*10+cell+size+stuff+above+below;");
        due("move, not held", b.says(0, 0, 0, 0, 0, 30, 1, 0), 299970);
        due("wear, not held", b.says(0, 1, 0, 0, 0, 1, 20, 0), -199980);
        due("over", b.says(0, 2, 1, 1, 2, 1, 1, 1), 2011);
        due("over, the first CELL", b.says(0, 2, 0, 1, 2, 1, 1, 0), 6000);
        ShingleBank place = on("cells 3;crest 0 11;crest 2 33;", "move=100*cell+crest;wear=100*crest+cell;");
        due("cell and crest for move", place.says(0, 0, 2, 0, 0, 1, 1, 0), 233);
        due("cell and crest for wear", place.says(0, 1, 0, 0, 0, 1, 1, 0), 1100);
        due("those of the CELL asked for, not of the one ahead", place.says(0, 0, 1, 0, 0, 1, 1, 0), 120);
        due("a SIZE and STUFF without stones", on("cells 2;", "move=size*10+stuff;").says(0, 0, 1, 3, 2, 1, 1, 0), 32);
        sentence("NoSuchElementException: no such LAW (so below). IllegalArgumentException: also height, beat, from.");
        refused(b, "LAW 1", MISSING, () -> b.says(1, 0, 0, 0, 0, 1, 1, 0));
        refused(b, "LAW -1", MISSING, () -> b.says(-1, 0, 0, 0, 0, 1, 1, 0));
        refused(b, "CELL ahead of LAW", OUTSIDE, () -> b.says(1, 9, 2, 9, 9, 0, 0, 9));
        refused(b, "LAW ahead of what", MISSING, () -> b.says(1, 9, 0, 9, 9, 0, 0, 9));
        due("least", b.says(0, 0, 0, 0, 0, 1, 1, 0), 9999);
        due("greatest", b.says(0, 0, 1, 1, 2, 30, 20, 1), 299970);
        refused(b, "what 3", WRONG, () -> b.says(0, 3, 0, 0, 0, 1, 1, 0));
        refused(b, "what -1", WRONG, () -> b.says(0, -1, 0, 0, 0, 1, 1, 0));
        refused(b, "SIZE 2", WRONG, () -> b.says(0, 0, 0, 2, 0, 1, 1, 0));
        refused(b, "SIZE NONE", WRONG, () -> b.says(0, 2, 0, -1, 0, 1, 1, 0));
        refused(b, "STUFF 3", WRONG, () -> b.says(0, 0, 0, 0, 3, 1, 1, 0));
        refused(b, "STUFF NONE", WRONG, () -> b.says(0, 2, 0, 0, -1, 1, 1, 0));
        refused(b, "height 0", WRONG, () -> b.says(0, 0, 0, 0, 0, 0, 1, 0));
        refused(b, "height 31", WRONG, () -> b.says(0, 0, 0, 0, 0, 31, 1, 0));
        refused(b, "beat 0", WRONG, () -> b.says(0, 0, 0, 0, 0, 1, 0, 0));
        refused(b, "beat 21", WRONG, () -> b.says(0, 0, 0, 0, 0, 1, 21, 0));
        refused(b, "from 2", WRONG, () -> b.says(0, 0, 0, 0, 0, 1, 1, 2));
        refused(b, "from -1", WRONG, () -> b.says(0, 0, 0, 0, 0, 1, 1, -1));
        pass(b, 0, 0, 600);
        due("behind all HOURS too", b.says(0, 0, 0, 0, 0, 1, 1, 0), 9999);
    }

    // ---- waves ----

    private static void waves() {
        sentence("A WAVE: how many stones MOVED. IllegalStateException: there is no BEACH, or HOURS are 600 (so below).");
        ShingleBank b = on("cells 2;heap 0 0 0 32;heap 1 1 1 32;wall 0 16;", "move=8;wear=16;");
        due("also those that stay, are caught or are SAND", b.wave(0, 1, 1, 0), 32);
        due("the greatest WAVE", b.wave(0, 30, 20, 1), 16 / 2 + 16 / 2 + 16 / 2);
        refused(b, "LAW 1", MISSING, () -> b.wave(1, 0, 0, 9));
        refused(b, "LAW -1", MISSING, () -> b.wave(-1, 1, 1, 0));
        refused(b, "height 0", WRONG, () -> b.wave(0, 0, 1, 0));
        refused(b, "height 31", WRONG, () -> b.wave(0, 31, 1, 0));
        refused(b, "beat 0", WRONG, () -> b.wave(0, 1, 0, 0));
        refused(b, "beat 21", WRONG, () -> b.wave(0, 1, 21, 0));
        refused(b, "from -1", WRONG, () -> b.wave(0, 1, 1, -1));
        refused(b, "from 2", WRONG, () -> b.wave(0, 1, 1, 2));
        due("no HOUR by these", b.told(6), 2);
        ShingleBank none = withoutBeach();
        refused(none, "no BEACH", BARRED, () -> none.wave(0, 1, 1, 0));
        refused(none, "LAW ahead of it", MISSING, () -> none.wave(1, 1, 1, 0));
        refused(none, "height ahead of it", WRONG, () -> none.wave(0, 31, 1, 0));
        ShingleBank late = on("cells 2;");
        pass(late, 0, 0, 599);
        due("the 600th HOUR", late.wave(0, 1, 1, 0), 0);
        refused(late, "HOURS are 600", BARRED, () -> late.wave(0, 1, 1, 0));
        refused(late, "LAW ahead of it", MISSING, () -> late.wave(1, 1, 1, 0));
        refused(late, "from ahead of it", WRONG, () -> late.wave(0, 1, 1, 2));
        sentence("A YEAR by a LAW: how many HOURS went by. NoSuchElementException: no such LAW, YEAR (so below).");
        ShingleBank run = on("cells 2;", "", YEAR_OF_180);
        int[] want = {180, 180, 180, 60};
        for (int i = 0; i < 4; i++) {
            due("run " + i, run.run(0, 0), want[i]);
        }
        refused(run, "HOURS are 600", BARRED, () -> run.run(0, 0));
        refused(run, "LAW ahead of it", MISSING, () -> run.run(1, 0));
        refused(run, "YEAR ahead of it", MISSING, () -> run.run(0, 1));
        refused(run, "LAW -1", MISSING, () -> run.run(-1, 0));
        refused(run, "YEAR -1", MISSING, () -> run.run(0, -1));
        refused(none, "no BEACH", BARRED, () -> none.run(0, 0));
    }

    private static void lots() {
        sentence("n HOURS (1 to 200) BY LOTS: how many went by (to 600 at most).");
        ShingleBank b = on("cells 2;", "", "wave 1 1 0;wave 1 1 1;");
        due("1", b.lots(0, 0, 1, MIN), 1);
        due("200", b.lots(0, 0, 200, MAX), 200);
        due("200", b.lots(0, 0, 200, 0), 200);
        due("to 600", b.lots(0, 0, 200, -1), 199);
        due("HOURS", b.told(6), 600);
        refused(b, "HOURS are 600", BARRED, () -> b.lots(0, 0, 1, 0));
        refused(b, "n ahead of it", WRONG, () -> b.lots(0, 0, 201, 0));
        ShingleBank c = on("cells 2;");
        for (int n : new int[]{0, 201, -1, MIN, MAX}) {
            refused(c, "n " + n, WRONG, () -> c.lots(0, 0, n, 0));
        }
        refused(c, "LAW ahead of n", MISSING, () -> c.lots(1, 0, 0, 0));
        refused(c, "YEAR ahead of n", MISSING, () -> c.lots(0, 1, 0, 0));
        due("none went by", c.told(6), 0);
        ShingleBank none = withoutBeach();
        refused(none, "no BEACH", BARRED, () -> none.lots(0, 0, 200, 0));
        refused(none, "n ahead of it", WRONG, () -> none.lots(0, 0, 0, 0));
        ShingleBank few = on("cells 2;");
        pass(few, 0, 0, 595);
        due("5 of 5", few.lots(0, 0, 5, 0), 5);
    }

    // ---- means, sounds, order, horns ----

    private static void meansAndSounds() {
        ShingleBank b = on("cells 12;heap 0 0 0 1;heap 11 3 2 1;");
        ShingleBank none = new ShingleBank();
        sentence("MEAN of a CELL.");
        due("the first", b.mean(0), 0);
        due("the last", b.mean(11), 3000);
        due("without stones", b.mean(5), -1);
        refused(b, "CELL 12", OUTSIDE, () -> b.mean(12));
        refused(b, "CELL NONE", OUTSIDE, () -> b.mean(-1));
        refused(none, "without a BEACH", OUTSIDE, () -> none.mean(0));
        sentence("SOUND; NONE without stones.");
        due("the first", b.sound(0), 60);
        due("the last", b.sound(11), 30);
        due("without stones", b.sound(5), -1);
        refused(b, "CELL 12", OUTSIDE, () -> b.sound(12));
        refused(b, "CELL NONE", OUTSIDE, () -> b.sound(-1));
        refused(none, "without a BEACH", OUTSIDE, () -> none.sound(0));
    }

    private static void orderAndHorns() {
        sentence("IN ORDER (what 0), of how many two CELLS (1), HORNS (2), KNOWN (3).");
        ShingleBank b = on("cells 4;heap 0 1 0 2;heap 1 0 0 3;heap 2 1 0 1;");
        int[] want = {2, 3, 1, 1};
        for (int what = 0; what <= 3; what++) {
            due("order " + what, b.order(what), want[what]);
            due("without a BEACH, " + what, new ShingleBank().order(what), 0);
        }
        for (int what : new int[]{-1, 4, MIN, MAX}) {
            refused(b, "what " + what, WRONG, () -> b.order(what));
        }
        sentence("The i-th HORN; NONE: there are not so many.");
        due("the first", b.horn(0), 1);
        for (int i : new int[]{1, -1, MIN, MAX, 12}) {
            due("HORN " + i, b.horn(i), -1);
        }
        due("without a BEACH", new ShingleBank().horn(0), -1);
    }

    // ---- the handful ----

    private static void hand() {
        sentence("A stone of the HANDFUL: how many there are; -1: there are 4.");
        ShingleBank b = on("cells 2;sizes 2;heap 1 1 2 1;");
        for (int n = 1; n <= 4; n++) {
            due("take " + n, b.take(1, 2), n);
        }
        due("a fifth", b.take(0, 0), -1);
        due("and again", b.take(1, 2), -1);
        refused(b, "SIZE 2, though there are 4", WRONG, () -> b.take(2, 0));
        refused(b, "STUFF 3, though there are 4", WRONG, () -> b.take(0, 3));
        due("they stay", b.word(1), 1000000000000L);
        refused(b, "SIZE NONE", WRONG, () -> b.take(-1, 0));
        refused(b, "STUFF NONE", WRONG, () -> b.take(0, -1));
        sentence("The HANDFUL goes: how many.");
        due("4", b.drop(), 4);
        due("none", b.drop(), 0);
        due("there is room", b.take(0, 0), 1);
        due("1", b.drop(), 1);
        due("without a BEACH", new ShingleBank().drop(), 0);
        sentence("WORD (1 without a HANDFUL).");
        due("with stones", b.word(1), 1);
        due("without stones", b.word(0), 1);
        refused(b, "CELL 2", OUTSIDE, () -> b.word(2));
        refused(b, "CELL NONE", OUTSIDE, () -> b.word(-1));
        sentence("`int odds(int cell) throws IndexOutOfBoundsException`: ODDS.");
        due("the half without a HANDFUL", b.odds(1), 500);
        refused(b, "CELL 2", OUTSIDE, () -> b.odds(2));
        refused(b, "CELL NONE", OUTSIDE, () -> b.odds(-1));
        ShingleBank none = new ShingleBank();
        refused(none, "without a BEACH", OUTSIDE, () -> none.odds(0));
        refused(none, "without a BEACH", OUTSIDE, () -> none.word(0));
    }

    private static void where() {
        sentence("0 GUESS, 1 NEAR, 2 how far.");
        ShingleBank b = on("cells 3;heap 2 0 0 1;");
        b.take(0, 0);
        int[] want = {2, 2, 0};
        for (int what = 0; what <= 2; what++) {
            due("where " + what, b.where(what), want[what]);
            due("without a BEACH, " + what, new ShingleBank().where(what), -1);
        }
        for (int what : new int[]{-1, 3, MIN, MAX}) {
            refused(b, "what " + what, WRONG, () -> b.where(what));
        }
    }

    // ---- painted ones, coins ----

    private static void painted() {
        sentence("FOUND. IllegalArgumentException: the SIZE, s.");
        ShingleBank b = on("cells 2;sizes 2;heap 0 1 2 16;");
        due("1 of 16", b.found(1, 1), 1);
        due("16 of 16", b.found(1, 16), 16);
        for (int s : new int[]{0, 17, -1, MIN, MAX}) {
            refused(b, "s " + s, WRONG, () -> b.found(1, s));
        }
        for (int size : new int[]{-1, 2, MIN, MAX}) {
            refused(b, "SIZE " + size, WRONG, () -> b.found(size, 1));
        }
        ShingleBank none = new ShingleBank();
        refused(none, "without a BEACH", WRONG, () -> none.found(0, 1));
        sentence("`int miles(int size) throws IllegalArgumentException`: MILES.");
        due("the last SIZE", b.miles(1), 0);
        due("the first, none PAINTED", b.miles(0), -1);
        for (int size : new int[]{-1, 2, MIN, MAX}) {
            refused(b, "SIZE " + size, WRONG, () -> b.miles(size));
        }
        refused(none, "without a BEACH", WRONG, () -> none.miles(0));
        sentence("`int lost()`: LOST.");
        due("none", b.lost(), 0);
        due("without a BEACH", none.lost(), 0);
    }

    private static void look() {
        sentence("LOOKING: the bits (what 0), of 1,000 (1; 0 without any). IllegalArgumentException: n is not 1 to CELLS.");
        ShingleBank b = on("cells 3;sizes 2;heap 0 1 0 1;heap 2 1 0 2;");
        due("1", b.look(1, 1, 0), 4);
        due("its part", b.look(1, 1, 1), 666);
        due("3", b.look(1, 3, 0), 7);
        due("their part", b.look(1, 3, 1), 1000);
        due("without any", b.look(0, 3, 1), 0);
        for (int n : new int[]{0, 4, -1, MIN, MAX}) {
            refused(b, "n " + n, WRONG, () -> b.look(1, n, 0));
        }
        refused(b, "SIZE 2", WRONG, () -> b.look(2, 1, 0));
        refused(b, "SIZE NONE", WRONG, () -> b.look(-1, 1, 0));
        refused(b, "what 2", WRONG, () -> b.look(1, 1, 2));
        refused(b, "what -1", WRONG, () -> b.look(1, 1, -1));
        ShingleBank none = new ShingleBank();
        refused(none, "without a BEACH", WRONG, () -> none.look(0, 0, 0));
    }

    // ---- what comes behind a year ----

    private interface Asking {
        long of(ShingleBank b, int law, int year);
    }

    /** No such LAW, YEAR, no BEACH, 600 HOURS: of what is asked of a YEAR to come. */
    private static void asked(Class<?> withoutBeach, Asking asking) {
        ShingleBank b = on("cells 3;heap 0 0 0 9;");
        for (int n : new int[]{-1, 1, MIN, MAX}) {
            refused(b, "LAW " + n, MISSING, () -> asking.of(b, n, 0));
            refused(b, "YEAR " + n, MISSING, () -> asking.of(b, 0, n));
        }
        pass(b, 0, 0, 599);
        asking.of(b, 0, 0);
        due("at 599 HOURS it is answered", b.told(6), 599);
        b.wave(0, 1, 1, 0);
        refused(b, "HOURS are 600", BARRED, () -> asking.of(b, 0, 0));
        refused(b, "LAW ahead of HOURS", MISSING, () -> asking.of(b, 1, 0));
        refused(b, "YEAR ahead of HOURS", MISSING, () -> asking.of(b, 0, 1));
        ShingleBank none = withoutBeach();
        refused(none, "no BEACH", withoutBeach, () -> asking.of(none, 0, 0));
    }

    private static void left() {
        sentence("`int left(int law, int year, int cell, int size) throws IndexOutOfBoundsException, NoSuchElementException, IllegalArgumentException, IllegalStateException`: LEFT.");
        asked(OUTSIDE, (b, law, year) -> b.left(law, year, 0, 0));
        ShingleBank b = on("cells 2;sizes 2;heap 0 0 0 1;heap 0 0 2 2;heap 1 1 1 4;");
        due("the first", b.left(0, 0, 0, 0), 3);
        due("the last", b.left(0, 0, 1, 1), 4);
        refused(b, "CELL 2", OUTSIDE, () -> b.left(9, 9, 2, 9));
        refused(b, "CELL NONE", OUTSIDE, () -> b.left(0, 0, -1, 0));
        refused(b, "SIZE 2", WRONG, () -> b.left(0, 0, 0, 2));
        refused(b, "SIZE NONE", WRONG, () -> b.left(0, 0, 0, -1));
        refused(b, "YEAR ahead of SIZE", MISSING, () -> b.left(0, 1, 0, 2));
        ShingleBank late = at600();
        refused(late, "SIZE ahead of HOURS", WRONG, () -> late.left(0, 0, 0, 4));
        refused(late, "CELL ahead of all", OUTSIDE, () -> late.left(1, 1, 3, 4));
    }

    private static void sample() {
        sentence("A number of the SAMPLE (0 to 999,999; NONE: not told): what it was (NONE at first).");
        ShingleBank b = on("cells 2;sizes 2;");
        due("NONE at first", b.sample(1, 1, 0), -1);
        due("0", b.sample(1, 1, 999999), 0);
        due("999,999", b.sample(1, 1, -1), 999999);
        due("NONE", b.sample(1, 1, 7), -1);
        for (int n : new int[]{-2, 1000000, MIN, MAX}) {
            refused(b, "number " + n, WRONG, () -> b.sample(1, 1, n));
        }
        due("it stays", b.sample(1, 1, 7), 7);
        refused(b, "CELL 2", OUTSIDE, () -> b.sample(2, 2, -2));
        refused(b, "CELL NONE", OUTSIDE, () -> b.sample(-1, 0, 0));
        refused(b, "SIZE 2", WRONG, () -> b.sample(0, 2, 0));
        refused(b, "SIZE NONE", WRONG, () -> b.sample(0, -1, 0));
        due("the first is another one", b.sample(0, 0, 1), -1);
        due("the next is another one", b.sample(0, 1, 1), -1);
        due("told ones", b.count(3), 3);
    }

    private static void which() {
        sentence("WHICH LAW (what 0; NONE without LAWS), by how much they are apart (1; NONE).");
        ShingleBank b = new ShingleBank();
        Texts.year(b, "wave 1 1 0;");
        refused(b, "no BEACH", BARRED, () -> b.which(0, 0));
        Texts.beach(b, "cells 2;heap 0 0 0 5;");
        b.sample(0, 0, 2);
        due("NONE without LAWS", b.which(0, 0), -1);
        due("NONE without LAWS", b.which(0, 1), -1);
        b.law(0);
        due("one LAW", b.which(0, 0), 0);
        due("apart", b.which(0, 1), 3);
        refused(b, "YEAR 1", MISSING, () -> b.which(1, 0));
        refused(b, "YEAR -1 ahead of what", MISSING, () -> b.which(-1, 2));
        refused(b, "what 2", WRONG, () -> b.which(0, 2));
        refused(b, "what -1", WRONG, () -> b.which(0, -1));
        pass(b, 0, 0, 599);
        due("at 599 HOURS", b.which(0, 1), 3);
        b.wave(0, 1, 1, 0);
        refused(b, "HOURS are 600", BARRED, () -> b.which(0, 0));
        refused(b, "what ahead of HOURS", WRONG, () -> b.which(0, 2));
        ShingleBank four = on("cells 2;heap 0 0 0 16;", "");
        for (int i = 1; i < 4; i++) {
            Texts.law(four, "move=" + i + ";");
        }
        four.sample(1, 0, 3);
        due("the last of four", four.which(0, 0), 3);
    }

    private static void cost() {
        sentence("What a WALL COSTS (instead of the one that is there). IndexOutOfBoundsException: no such CELL, or the wall's is the last one. IllegalArgumentException: P (0 to 16; 0: none).");
        asked(OUTSIDE, (b, law, year) -> b.cost(law, year, 0, 1, 0));
        ShingleBank b = on("cells 3;heap 0 0 0 16;heap 1 0 0 16;wall 1 4;", "move=16;");
        due("0: none", b.cost(0, 0, 1, 0, 1), 4);
        due("16", b.cost(0, 0, 1, 16, 1), -12);
        due("as it is", b.cost(0, 0, 1, 4, 1), 0);
        due("the last but one, for the last", b.cost(0, 0, 1, 16, 2), 12);
        refused(b, "P 17", WRONG, () -> b.cost(0, 0, 0, 17, 0));
        refused(b, "P -1", WRONG, () -> b.cost(0, 0, 0, -1, 0));
        refused(b, "the wall's CELL is the last one", OUTSIDE, () -> b.cost(0, 0, 2, 1, 0));
        refused(b, "the wall's CELL is none", OUTSIDE, () -> b.cost(0, 0, 3, 1, 0));
        refused(b, "the wall's CELL is -1", OUTSIDE, () -> b.cost(0, 0, -1, 1, 0));
        refused(b, "CELL 3", OUTSIDE, () -> b.cost(0, 0, 0, 1, 3));
        refused(b, "CELL -1", OUTSIDE, () -> b.cost(0, 0, 0, 1, -1));
        refused(b, "the last one ahead of LAW and P", OUTSIDE, () -> b.cost(9, 9, 2, 99, 0));
        refused(b, "LAW ahead of P", MISSING, () -> b.cost(1, 0, 0, 17, 0));
        ShingleBank late = at600();
        refused(late, "P ahead of HOURS", WRONG, () -> late.cost(0, 0, 0, 17, 0));
        ShingleBank two = on("cells 2;heap 0 0 0 16;", "move=16;");
        due("the only wall of two CELLS", two.cost(0, 0, 0, 16, 1), 16);
        refused(two, "the last one of two", OUTSIDE, () -> two.cost(0, 0, 1, 16, 1));
    }

    private static void raised() {
        sentence("RAISED: 0 the bits, 1 OVERS then (those of the YEAR alone). IllegalArgumentException: k (no more than CELLS), m, what.");
        asked(WRONG, (b, law, year) -> b.raised(law, year, 1, 1, 0));
        ShingleBank b = on("cells 2;", "over=21;");
        due("k 1, m 1", b.raised(0, 0, 1, 1, 0), 1);
        due("k 2, m 20", b.raised(0, 0, 2, 20, 0), 3);
        due("OVERS then", b.raised(0, 0, 2, 20, 1), 0);
        refused(b, "k 3 of 2 CELLS", WRONG, () -> b.raised(0, 0, 3, 1, 0));
        refused(b, "k 0", WRONG, () -> b.raised(0, 0, 0, 1, 0));
        refused(b, "k -1", WRONG, () -> b.raised(0, 0, -1, 1, 0));
        refused(b, "m 0", WRONG, () -> b.raised(0, 0, 1, 0, 0));
        refused(b, "m 21", WRONG, () -> b.raised(0, 0, 1, 21, 0));
        refused(b, "what 2", WRONG, () -> b.raised(0, 0, 1, 1, 2));
        refused(b, "what -1", WRONG, () -> b.raised(0, 0, 1, 1, -1));
        refused(b, "LAW ahead of k", MISSING, () -> b.raised(1, 0, 0, 0, 2));
        ShingleBank three = on("cells 3;", "over=21;");
        due("k 3 of 3 CELLS", three.raised(0, 0, 3, 1, 0), 7);
        ShingleBank twelve = on("cells 12;", "over=21;");
        refused(twelve, "k 4 of 12 CELLS", WRONG, () -> twelve.raised(0, 0, 4, 1, 0));
        due("k 3 of 12 CELLS", twelve.raised(0, 0, 3, 1, 1), 9);
        ShingleBank late = at600();
        refused(late, "k ahead of HOURS", WRONG, () -> late.raised(0, 0, 4, 1, 0));
    }

    private static void brought() {
        sentence("BROUGHT: 0 100 times whence, and whither (NONE: none is better), 1 IN ORDER then. IllegalArgumentException: N (1 to 999), what.");
        asked(BARRED, (b, law, year) -> b.brought(law, year, 1, 0));
        ShingleBank b = on("cells 2;heap 0 1 0 1000;");
        due("1", b.brought(0, 0, 1, 0), 1);
        due("999", b.brought(0, 0, 999, 0), 1);
        due("IN ORDER then", b.brought(0, 0, 999, 1), 1);
        for (int n : new int[]{0, 1000, -1, MIN, MAX}) {
            refused(b, "N " + n, WRONG, () -> b.brought(0, 0, n, 0));
        }
        refused(b, "what 2", WRONG, () -> b.brought(0, 0, 1, 2));
        refused(b, "what -1", WRONG, () -> b.brought(0, 0, 1, -1));
        refused(b, "YEAR ahead of N", MISSING, () -> b.brought(0, 1, 0, 0));
        ShingleBank none = on("cells 2;heap 0 1 0 999;");
        due("all 999: none is better", none.brought(0, 0, 999, 0), -1);
        due("IN ORDER as it is", none.brought(0, 0, 999, 1), 0);
        due("998: it is", none.brought(0, 0, 998, 0), 1);
        // SIZE 3 always comes back to CELL 0; only if it were sold, the two would be in order
        ShingleBank back = on("cells 2;heap 0 0 0 1;heap 0 3 0 1;heap 1 1 0 1;", "move=if size=3 then 16 else 0;", "wave 1 1 1;");
        due("to another CELL, none is sold", back.brought(0, 0, 1, 0), -1);
        due("IN ORDER as it is", back.brought(0, 0, 1, 1), 0);
        ShingleBank nobody = withoutBeach();
        refused(nobody, "N ahead of no BEACH", WRONG, () -> nobody.brought(0, 0, 0, 0));
    }

    private static void sums() {
        sentence("SUMS: 0 at first and put, 1 come, 2 SAND, 3 BEHIND, 4 sold.");
        ShingleBank b = on("cells 2;heap 0 0 0 160;heap 1 0 0 160;spring 0 1 0 7;lorry 1 2 9 1;crest 0 1;", "move=if cell=1 then 4 else 0;wear=16;over=if cell=0 then 2 else 0;");
        b.put(0, 3, 0, 3);
        b.wave(0, 1, 1, 0);
        int[] want = {323, 7, 40, 10, 9};
        for (int what = 0; what <= 4; what++) {
            due("sums " + what, b.sums(what), want[what]);
        }
        for (int what : new int[]{-1, 5, MIN, MAX}) {
            refused(b, "what " + what, WRONG, () -> b.sums(what));
        }
    }

    private static void last() {
        sentence("LAST. IllegalArgumentException: n (1 to 999,999).");
        asked(OUTSIDE, (b, law, year) -> b.last(law, year, 0, 1));
        ShingleBank b = on("cells 2;heap 0 0 0 1;");
        due("1: never fewer", b.last(0, 0, 0, 1), -1);
        due("1, of none", b.last(0, 0, 1, 1), 0);
        due("2", b.last(0, 0, 0, 2), 0);
        due("999,999", b.last(0, 0, 0, 999999), 0);
        for (int n : new int[]{0, 1000000, -1, MIN, MAX}) {
            refused(b, "n " + n, WRONG, () -> b.last(0, 0, 0, n));
        }
        refused(b, "CELL 2", OUTSIDE, () -> b.last(1, 1, 2, 0));
        refused(b, "CELL NONE", OUTSIDE, () -> b.last(0, 0, -1, 1));
        refused(b, "YEAR ahead of n", MISSING, () -> b.last(0, 1, 0, 0));
        ShingleBank late = at600();
        refused(late, "n ahead of HOURS", WRONG, () -> late.last(0, 0, 0, 0));
        refused(late, "HOURS, though it has fewer at once", BARRED, () -> late.last(0, 0, 0, 999999));
    }

    private static void like() {
        sentence("`int like(int cell, int other) throws IndexOutOfBoundsException`: LIKE.");
        ShingleBank b = on("cells 12;heap 0 0 0 1;heap 11 0 0 1;");
        due("the first and the last", b.like(0, 11), 0);
        due("the last and one without", b.like(11, 5), 1000);
        for (int cell : new int[]{-1, 12, MIN, MAX}) {
            refused(b, "CELL " + cell, OUTSIDE, () -> b.like(cell, 0));
            refused(b, "other " + cell, OUTSIDE, () -> b.like(0, cell));
            refused(b, "both, once", OUTSIDE, () -> b.like(cell, cell));
        }
        ShingleBank none = new ShingleBank();
        refused(none, "without a BEACH", OUTSIDE, () -> none.like(0, 0));
    }

    private static void walls() {
        sentence("WALLS: 0 the bits, 1 stones then. IllegalArgumentException: k (no more than CELLS less 1), P (1 to 16), what.");
        asked(OUTSIDE, (b, law, year) -> b.walls(law, year, 1, 1, 0, 0));
        ShingleBank b = on("cells 3;heap 0 0 0 16;heap 1 0 0 16;", "move=16;");
        due("k 1, P 1", b.walls(0, 0, 1, 1, 0, 1), 1);
        due("k 2, P 16", b.walls(0, 0, 2, 16, 1, 0), 3);
        due("stones then", b.walls(0, 0, 2, 16, 1, 1), 16);
        refused(b, "k 3 of 3 CELLS", WRONG, () -> b.walls(0, 0, 3, 1, 0, 0));
        refused(b, "k 0", WRONG, () -> b.walls(0, 0, 0, 1, 0, 0));
        refused(b, "k -1", WRONG, () -> b.walls(0, 0, -1, 1, 0, 0));
        refused(b, "P 0", WRONG, () -> b.walls(0, 0, 1, 0, 0, 0));
        refused(b, "P 17", WRONG, () -> b.walls(0, 0, 1, 17, 0, 0));
        refused(b, "what 2", WRONG, () -> b.walls(0, 0, 1, 1, 0, 2));
        refused(b, "what -1", WRONG, () -> b.walls(0, 0, 1, 1, 0, -1));
        refused(b, "CELL 3", OUTSIDE, () -> b.walls(1, 1, 0, 0, 3, 2));
        refused(b, "CELL NONE", OUTSIDE, () -> b.walls(0, 0, 1, 1, -1, 0));
        refused(b, "LAW ahead of k", MISSING, () -> b.walls(1, 0, 0, 1, 0, 0));
        ShingleBank two = on("cells 2;");
        due("k 1 of 2 CELLS", two.walls(0, 0, 1, 1, 1, 0), 1);
        refused(two, "k 2 of 2 CELLS", WRONG, () -> two.walls(0, 0, 2, 1, 0, 0));
        ShingleBank four = on("cells 4;");
        due("k 3 of 4 CELLS", four.walls(0, 0, 3, 1, 0, 0), 7);
        ShingleBank twelve = on("cells 12;");
        refused(twelve, "k 4 of 12 CELLS", WRONG, () -> twelve.walls(0, 0, 4, 1, 0, 0));
        ShingleBank late = at600();
        refused(late, "P ahead of HOURS", WRONG, () -> late.walls(0, 0, 1, 0, 0, 0));
        // a wall on either side would keep more than one does; asked for one it has to be one
        ShingleBank sides = on("cells 4;heap 1 0 0 16;", "move=8;", "wave 1 1 0;wave 1 1 1;");
        due("one and no more", Integer.bitCount(sides.walls(0, 0, 1, 16, 1, 0)), 1);
        due("two keep all", sides.walls(0, 0, 2, 16, 1, 1), 16);
        due("one does not", sides.walls(0, 0, 1, 16, 1, 1), 12);
    }

    private static void high() {
        sentence("HIGH; NONE: not by 100.");
        asked(BARRED, (b, law, year) -> b.high(law, year));
        due("0", on("cells 2;", "over=20;").high(0, 0), 0);
        due("1", on("cells 2;", "over=21;").high(0, 0), 1);
        due("99", on("cells 2;", "over=119;").high(0, 0), 99);
        due("100", on("cells 2;", "over=120;").high(0, 0), 100);
        due("101 would be needed", on("cells 2;", "over=121;").high(0, 0), -1);
        due("a crest of 60", on("cells 2;crest 0 60;crest 1 60;", "over=160;").high(0, 0), 100);
        due("the first CELL alone", on("cells 3;crest 0 1;", "over=2;").high(0, 0), 1);
        due("the last CELL alone", on("cells 3;crest 2 1;", "over=2;").high(0, 0), 1);
        due("a crest of 1", on("cells 2;crest 1 1;", "over=102;").high(0, 0), -1);
    }

    private static void one() {
        sentence("BY ONE: 0 10 times SIZE, and STUFF, 1 how far; NONE: there is no stone.");
        ShingleBank b = on("cells 2;sizes 6;");
        due("no stone", b.one(0), -1);
        due("no stone", b.one(1), -1);
        due("a single stone", b.put(1, 5, 2, 1), 1);
        due("it", b.one(0), 52);
        due("0, not NONE", b.one(1), 0);
        due("another one of it", b.put(0, 5, 2, 1), 1);
        due("how far", b.one(1), 500);
        for (int what : new int[]{-1, 2, MIN, MAX}) {
            refused(b, "what " + what, WRONG, () -> b.one(what));
        }
        ShingleBank none = new ShingleBank();
        due("without a BEACH", none.one(0) + none.one(1), -2);
        refused(none, "what 2 without a BEACH", WRONG, () -> none.one(2));
    }

    private static void seen() {
        sentence("SEEN. IllegalArgumentException: n (1 to 999), s.");
        ShingleBank b = new ShingleBank();
        due("the least", b.seen(1, 16), 1);
        due("the most", b.seen(999, 1), 15984);
        due("all are seen", b.seen(999, 16), 999);
        due("one with one of 16", b.seen(1, 1), 16);
        due("cut up, not down: 16 by 15", b.seen(1, 15), 2);
        for (int n : new int[]{0, 1000, -1, MIN, MAX}) {
            refused(b, "n " + n, WRONG, () -> b.seen(n, 1));
        }
        for (int s : new int[]{0, 17, -1, MIN, MAX}) {
            refused(b, "s " + s, WRONG, () -> b.seen(1, s));
        }
    }

    // ---- images, counts ----

    private static void image() {
        sentence("An IMAGE of all but LAWS, YEARS, the TAPE and the FAULT: how many there are; -1: there are 3.");
        ShingleBank b = on("cells 2;heap 0 0 0 1;");
        for (int n = 1; n <= 3; n++) {
            b.put(0, 0, 0, 10);
            due("image " + n, b.image(), n);
        }
        b.put(0, 0, 0, 100);
        due("a fourth", b.image(), -1);
        due("there are 3", b.count(1), 3);
        due("the third", b.restore(), 2);
        due("it is the third, not the fourth", b.stones(0, 0, 0), 31);
        due("there is room for one", b.image(), 3);
        due("and for no more", b.image(), -1);
        ShingleBank none = new ShingleBank();
        due("without a BEACH", none.image(), 1);
        due("without a BEACH", none.restore(), 0);
        due("CELLS", none.told(0), 0);
    }

    private static void imageOfAll() {
        sentence("(What the BEACH told of springs, lorries, CELLS stays with it anyway.)");
        ShingleBank b = on("cells 3;sizes 5;heap 0 0 2 160;spring 0 0 2 1;lorry 0 3 1 1;crest 0 1;wall 0 5;", "move=4;wear=4;over=2;");
        b.take(0, 2);
        b.sample(2, 4, 9);
        b.image();
        due("a LAW behind it", b.law(0), 1);
        due("a YEAR behind it", Texts.year(b, "wave 1 1 0;"), 1);
        b.wave(0, 1, 1, 0);
        b.put(0, 4, 0, 3);
        b.drop();
        b.take(4, 1);
        b.take(0, 0);
        b.sample(2, 4, 8);
        b.sample(0, 0, 0);
        due("a faulty LAW", Texts.law(b, "x"), -9);
        b.feed(0, 0, 0, 0, 0);
        refused(b, "a refusal", OUTSIDE, () -> b.mean(3));
        b.restore();
        int[] told = {3, 5, 1, 1, 2, 2, 0};
        for (int what = 0; what <= 6; what++) {
            due("told " + what, b.told(what), told[what]);
        }
        due("stones", b.stones(-1, -1, -1), 160);
        due("SUMS", b.sums(0), 160);
        due("SUMS", b.sums(1) + b.sums(2) + b.sums(3) + b.sums(4), 0);
        due("crest", b.cell(0, 0), 1);
        due("wall", b.cell(0, 1), 5);
        due("OVERS", b.cell(0, 2), 0);
        due("HANDFUL", b.count(0), 1);
        due("its stone", b.word(0), 1000);
        due("SAMPLE", b.count(3), 1);
        due("its number", b.sample(2, 4, 0), 9);
        due("LOST", b.lost(), 0);
        due("TAPE", b.count(2), 20);
        due("FAULT", b.fault(), 0);
        due("springs and lorries go on", b.wave(1, 1, 1, 0) + b.sums(1) + b.sums(4), 2);
    }

    private static void restore() {
        sentence("All is as in the latest IMAGE, which is gone: how many are left; -1: there is none.");
        ShingleBank b = on("cells 2;");
        due("none", b.restore(), -1);
        for (int n = 1; n <= 3; n++) {
            b.put(0, 0, 0, n);
            b.image();
        }
        b.put(1, 0, 0, 9);
        int[] want = {1, 3, 6};
        for (int n = 2; n >= 0; n--) {
            due("left", b.restore(), n);
            due("stones then", b.stones(-1, -1, -1), want[n]);
            due("IMAGES", b.count(1), n);
        }
        due("none", b.restore(), -1);
        due("it did nothing", b.stones(-1, -1, -1), 1);
        due("none refused", b.status(3), 0);
        ShingleBank hours = at600();
        hours.image();
        due("HOURS that end come back as such", hours.restore(), 0);
        refused(hours, "wave", BARRED, () -> hours.wave(0, 1, 1, 0));
        ShingleBank early = on("cells 2;");
        early.image();
        pass(early, 0, 0, 600);
        early.restore();
        due("from an earlier HOUR on it goes on", early.lots(0, 0, 200, 1), 200);
    }

    private static void status() {
        sentence("How many calls were refused: 0 IndexOutOfBoundsException, 1 NoSuchElementException, 2 IllegalArgumentException, 3 IllegalStateException; NONE for others. (No IMAGE keeps it.)");
        ShingleBank b = at600();
        b.image();
        for (int i = 0; i < 5; i++) {
            refused(b, "CELL", OUTSIDE, () -> b.mean(3));
            if (i < 4) {
                refused(b, "LAW", MISSING, () -> b.wave(1, 1, 1, 0));
            }
            if (i < 3) {
                refused(b, "what", WRONG, () -> b.told(7));
            }
            if (i < 2) {
                refused(b, "HOURS", BARRED, () -> b.run(0, 0));
            }
        }
        b.restore();
        Texts.beach(b, "cells 2;");
        Texts.beach(b, "x");
        b.feed(0, 0, 0, 0, 0);
        b.horn(-1);
        b.restore();
        for (int what = 0; what < 4; what++) {
            due("status " + what, b.status(what), 5 - what);
        }
        for (int what : new int[]{-1, 4, MIN, MAX}) {
            due("others, " + what, b.status(what), -1);
        }
        due("and these are none refused", b.status(2), 3);
    }

    private static void count() {
        sentence("0 the HANDFUL, 1 IMAGES, 2 bytes of the TAPE, 3 numbers of the SAMPLE that are told; NONE for others.");
        ShingleBank b = on("cells 12;sizes 6;");
        for (int c = 0; c < 12; c++) {
            for (int size = 0; size < 6; size++) {
                b.sample(c, size, size == 3 ? 999999 : 0);
            }
        }
        due("all numbers", b.count(3), 72);
        b.sample(11, 5, -1);
        due("one less", b.count(3), 71);
        for (int i = 0; i < 5; i++) {
            b.take(0, 0);
            b.image();
        }
        feedAll(b);
        due("a full HANDFUL", b.count(0), 4);
        due("all IMAGES", b.count(1), 3);
        due("a full TAPE", b.count(2), 600);
        for (int what : new int[]{-1, 4, MIN, MAX}) {
            due("others, " + what, b.count(what), -1);
        }
        due("none refused", b.status(2), 0);
    }
}
