/** Terms, part 2: what a WAVE does, at the ends of what it is held to, where it is cut, at the ends of the beach. */
public final class WaveBoundsTest extends Sentences {
    private static final int[] SOME = {0, 1, 2, 7, 8, 15, 16, 17, 31, 32, 33, 159, 160, 9999};

    public static void main(String[] args) {
        anHour();
        heldMove();
        heldWear();
        sizeZero();
        aboveAndBelow();
        untold();
        whither();
        walls();
        aheadOfIt();
        overs();
        behind();
        springs();
        lorries();
        lorryLoads();
        hours();
        lots();
        seeds();
        means();
        inOrder();
        horns();
        end();
    }

    // ---- an hour ----

    private static void anHour() {
        sentence("A WAVE by a LAW is an HOUR.");
        ShingleBank b = on("cells 2;heap 0 0 0 16;spring 1 0 0 1;", "move=height;", "wave 1 1 0 times 4;wave 2 1 1;");
        due("at first", b.told(6), 0);
        b.wave(0, 3, 1, 0);
        due("a WAVE", b.told(6), 1);
        due("by its LAW", b.stones(0, 0, 0), 13);
        due("what comes each HOUR", b.sums(1), 1);
        b.wave(0, 30, 1, 0);
        due("a second one", b.told(6), 2);
        due("by its LAW", b.stones(0, 0, 0), 0);
        b.wave(0, 1, 1, 0);
        due("one that finds nothing to move", b.told(6), 3);
        b.run(0, 0);
        due("the WAVES of a YEAR, each as often as told", b.told(6), 8);
        b.lots(0, 0, 7, 1);
        due("WAVES BY LOTS", b.told(6), 15);
        due("what comes each HOUR", b.sums(1), 15);
        b.says(0, 0, 0, 0, 0, 1, 1, 0);
        due("asking is none", b.told(6), 15);
        refused(b, "a WAVE too high", WRONG, () -> b.wave(0, 31, 1, 0));
        due("a refused one is none", b.told(6), 15);
        due("an empty LAW", Texts.law(b, ""), 1);
        b.wave(1, 1, 1, 0);
        due("a LAW that tells nothing: an HOUR all the same", b.told(6), 16);
    }

    // ---- what moves and wears ----

    private static final String[] TOLD = {"2048*1024*1024", "0-9999", "0-17", "0-1", "0", "1", "2", "8", "15", "16", "17", "18", "9999", "2048*1024*1024-1", "256*256*256*256+5"};
    private static final int[] HELD = {0, 0, 0, 0, 0, 1, 2, 8, 15, 16, 16, 16, 16, 16, 5};

    private static void heldMove() {
        sentence("MOVED are as many of 16 as move says (held to 0 .. 16), cut");
        for (int i = 0; i < TOLD.length; i++) {
            ShingleBank b = on("cells 2;heap 0 1 0 16;", "move=" + TOLD[i] + ";");
            due("move " + TOLD[i], b.wave(0, 1, 1, 0), HELD[i]);
            due("move " + TOLD[i] + ", stayed", b.stones(0, 1, 0), 16 - HELD[i]);
            due("move " + TOLD[i] + ", gone on", b.stones(1, 1, 0), HELD[i]);
        }
        for (int m = 0; m <= 16; m++) {
            for (int n : SOME) {
                ShingleBank b = on("cells 2;heap 0 1 0 " + n + ";", "move=" + m + ";");
                due(m + " of 16 of " + n, b.wave(0, 1, 1, 0), n * m / 16);
                due(m + " of 16 of " + n + ", stayed", b.stones(0, 1, 0), n - n * m / 16);
            }
        }
        ShingleBank apart = on("cells 2;heap 0 1 0 15;heap 0 1 1 15;heap 0 2 0 15;heap 0 2 1 1;", "move=1;");
        due("each SIZE and STUFF is cut apart", apart.wave(0, 1, 1, 0), 0);
    }

    private static void heldWear() {
        sentence("of these WORN as many of 16 as wear says (likewise), cut");
        for (int i = 0; i < TOLD.length; i++) {
            ShingleBank b = on("cells 2;heap 0 1 0 16;", "move=16;wear=" + TOLD[i] + ";");
            due("wear " + TOLD[i] + ", MOVED", b.wave(0, 1, 1, 0), 16);
            due("wear " + TOLD[i] + ", worn", b.stones(1, 0, 0), HELD[i]);
            due("wear " + TOLD[i] + ", others", b.stones(1, 1, 0), 16 - HELD[i]);
        }
        for (int w = 0; w <= 16; w++) {
            for (int n : SOME) {
                ShingleBank b = on("cells 2;heap 0 1 0 " + n + ";", "move=8;wear=" + w + ";");
                int moved = b.wave(0, 1, 1, 0);
                due(w + " of 16 of " + n + " by 2, MOVED", moved, n / 2);
                due(w + " of 16 of " + n + " by 2, worn", b.stones(1, 0, 0), moved * w / 16);
                due(w + " of 16 of " + n + " by 2, others", b.stones(1, 1, 0), moved - moved * w / 16);
            }
        }
        ShingleBank none = on("cells 2;heap 0 1 0 15;", "move=16;wear=1;");
        none.wave(0, 1, 1, 0);
        due("one of 16 of 15 is none", none.stones(1, 0, 0), 0);
    }

    private static void sizeZero() {
        sentence("they are one SIZE less (SIZE 0: SAND, gone)");
        for (int size = 0; size < 6; size++) {
            ShingleBank b = on("cells 2;sizes 6;heap 0 " + size + " 1 32;", "move=16;wear=8;");
            b.wave(0, 1, 1, 0);
            due("SIZE " + size + ", not worn", b.stones(1, size, 1), 16);
            due("SIZE " + size + ", one less", size == 0 ? 16 : b.stones(1, size - 1, 1), 16);
            due("SIZE " + size + ", all that are here", b.stones(-1, -1, -1), size == 0 ? 16 : 32);
            due("SIZE " + size + ", SAND", b.sums(2), size == 0 ? 16 : 0);
        }
        ShingleBank all = on("cells 2;heap 1 0 2 5;", "move=16;wear=16;");
        due("they MOVED all the same", all.wave(0, 1, 1, 0), 5);
        due("gone", all.stones(-1, -1, -1), 0);
        due("SAND", all.sums(2), 5);
        due("none is carried any more", all.wave(0, 1, 1, 0), 0);
        due("SAND stays as it is", all.sums(2), 5);
    }

    private static void aboveAndBelow() {
        sentence("Names: above, below: of 16 (cut) how much of all stones of that CELL is of a greater, lesser SIZE");
        int[][] lots = {{0, 0, 0}, {0, 1, 0}, {0, 16, 1}, {0, 15, 1}, {1, 15, 0}, {1, 16, 0}, {1, 0, 15}, {15, 0, 1}, {16, 0, 1}, {5, 0, 0}, {0, 0, 5}, {9999, 1, 9999}, {1, 9999, 1}, {3, 3, 3}};
        for (int[] n : lots) {
            ShingleBank b = on("cells 2;sizes 3;heap 1 0 0 " + n[0] + ";heap 1 1 1 " + n[1] + ";heap 1 2 2 " + n[2] + ";", "move=above;wear=below;");
            int all = n[0] + n[1] + n[2];
            for (int size = 0; size < 3; size++) {
                int lesser = 0;
                for (int z = 0; z < size; z++) {
                    lesser += n[z];
                }
                int greater = all - lesser - n[size];
                String told = n[0] + "," + n[1] + "," + n[2] + " for SIZE " + size;
                due("above, " + told, b.says(0, 0, 1, size, 0, 1, 1, 0), all == 0 ? 0 : 16 * greater / all);
                due("below, " + told, b.says(0, 1, 1, size, 0, 1, 1, 0), all == 0 ? 0 : 16 * lesser / all);
            }
        }
        for (int size = 0; size < 6; size++) {
            // of 96 stones 16 are of each SIZE: those below are size times 16 by 6 of 16
            ShingleBank six = on("cells 2;sizes 6;heap 0 0 0 16;heap 0 1 1 16;heap 0 2 2 16;heap 0 3 0 16;heap 0 4 1 16;heap 0 5 2 16;", "move=if size=" + size + " then below else 0;");
            due("of six SIZES, below " + size, six.wave(0, 1, 1, 0), 16 * 16 * size / 96);
            ShingleBank more = on("cells 2;sizes 6;heap 0 0 0 16;heap 0 1 1 16;heap 0 2 2 16;heap 0 3 0 16;heap 0 4 1 16;heap 0 5 2 16;", "move=if size=" + size + " then above else 0;");
            due("of six SIZES, above " + size, more.wave(0, 1, 1, 0), 16 * 16 * (5 - size) / 96);
        }
        ShingleBank b = on("cells 2;sizes 2;heap 0 0 0 1;heap 0 1 0 16;", "move=if size=0 and above=15 then 16 else 0;");
        due("16 of 17 are 15 of 16 for the wave too", b.wave(0, 1, 1, 0), 1);
        ShingleBank c = on("cells 2;sizes 2;heap 0 1 0 1;heap 0 0 0 15;", "move=if size=1 then below else 0;");
        due("15 of 16 of one stone is none", c.wave(0, 1, 1, 0), 0);
    }

    private static void untold() {
        sentence("what a law does not tell is 0.");
        ShingleBank b = on("cells 2;heap 0 1 0 99;crest 0 1;", "");
        for (int what = 0; what < 3; what++) {
            due("says " + what, b.says(0, what, 0, 1, 0, 30, 20, 1), 0);
        }
        due("none MOVED", b.wave(0, 30, 20, 0), 0);
        due("no OVER", b.cell(0, 2), 0);
        ShingleBank move = on("cells 2;heap 0 1 0 16;crest 1 1;", "move=16;");
        due("only move: all", move.wave(0, 1, 1, 0), 16);
        due("only move: none worn, none BEHIND", move.stones(1, 1, 0), 16);
        ShingleBank wear = on("cells 2;heap 0 1 0 16;", "wear=16;");
        due("only wear: none MOVED", wear.wave(0, 1, 1, 0), 0);
        due("only wear: none is worn where it lies", wear.stones(0, 1, 0), 16);
    }

    // ---- whither ----

    private static void whither() {
        sentence("MOVED ones go to the next CELL, or the one ahead, by from; where there is none, they stay");
        for (int cells = 2; cells <= 12; cells += 5) {
            for (int c = 0; c < cells; c++) {
                for (int from = 0; from < 2; from++) {
                    ShingleBank b = on("cells " + cells + ";heap " + c + " 1 2 16;", "move=16;wear=4;");
                    int to = from == 0 ? Math.min(cells - 1, c + 1) : Math.max(0, c - 1);
                    String told = "of " + cells + " CELL " + c + " by " + from;
                    due(told + ", MOVED", b.wave(0, 1, 1, from), 16);
                    due(told + ", there", b.stones(to, 1, 2), 12);
                    due(told + ", worn there", b.stones(to, 0, 2), 4);
                    due(told + ", all", b.stones(-1, -1, -1), 16);
                }
            }
        }
    }

    private static void walls() {
        sentence("if there is a wall between, of those of a SIZE and STUFF (WORN ones and others apart, each cut) P of 16 stay in the CELL they come from");
        for (int p = 1; p <= 16; p++) {
            for (int n : new int[]{1, 15, 16, 17, 30, 32, 9999}) {
                for (int from = 0; from < 2; from++) {
                    ShingleBank b = on("cells 3;heap 1 1 0 " + n + ";wall " + (1 - from) + " " + p + ";", "move=16;wear=8;");
                    int worn = n * 8 / 16;
                    int others = n - worn;
                    String told = p + " of 16 of " + n + " by " + from;
                    due(told + ", MOVED", b.wave(0, 1, 1, from), n);
                    due(told + ", worn ones kept", b.stones(1, 0, 0), worn * p / 16);
                    due(told + ", others kept", b.stones(1, 1, 0), others * p / 16);
                    due(told + ", worn ones beyond", b.stones(2 - 2 * from, 0, 0), worn - worn * p / 16);
                    due(told + ", others beyond", b.stones(2 - 2 * from, 1, 0), others - others * p / 16);
                }
            }
        }
        ShingleBank both = on("cells 2;heap 0 1 0 30;wall 0 1;", "move=16;wear=8;");
        both.wave(0, 1, 1, 0);
        due("15 worn and 15 others: of each none is kept", both.stones(0, -1, -1), 0);
        ShingleBank apart = on("cells 2;heap 0 1 0 15;heap 0 1 1 15;heap 0 2 1 15;wall 0 1;", "move=16;");
        apart.wave(0, 1, 1, 0);
        due("each SIZE and STUFF apart: none is kept", apart.stones(0, -1, -1), 0);
        ShingleBank behind = on("cells 3;heap 1 1 0 16;wall 1 16;", "move=16;");
        behind.wave(0, 1, 1, 1);
        due("the wall behind it is not between it and the one ahead", behind.stones(0, 1, 0), 16);
        ShingleBank ahead = on("cells 3;heap 1 1 0 16;wall 0 16;", "move=16;");
        ahead.wave(0, 1, 1, 0);
        due("the wall ahead of it is not between it and the next one", ahead.stones(2, 1, 0), 16);
        ShingleBank ends = on("cells 3;heap 0 1 0 16;heap 2 1 0 16;wall 0 16;wall 1 16;", "move=16;wear=16;");
        ends.wave(0, 1, 1, 0);
        due("all are caught, worn as they are", ends.stones(0, 0, 0), 16);
        due("where there is no CELL there is no wall", ends.stones(2, 0, 0), 16);
        ShingleBank sand = on("cells 2;heap 0 0 0 16;wall 0 16;", "move=16;wear=16;");
        sand.wave(0, 1, 1, 0);
        due("no wall keeps SAND", sand.sums(2), 16);
    }

    private static void aheadOfIt() {
        sentence("Of each CELL, SIZE, STUFF, by stones as they are ahead of it");
        for (int from = 0; from < 2; from++) {
            ShingleBank b = on("cells 4;heap 0 3 0 1;heap 1 3 0 20;heap 2 3 0 300;heap 3 3 0 4000;", "move=16;wear=16;");
            due("each is carried once", b.wave(0, 1, 1, from), 4321);
            due("and worn once", b.stones(-1, 2, -1), 4321);
            due("the one within", b.stones(2, 2, 0), from == 0 ? 20 : 4000);
            due("at the end", b.stones(from == 0 ? 3 : 0, 2, 0), from == 0 ? 4300 : 21);
            due("at the beginning", b.stones(from == 0 ? 0 : 3, -1, -1), 0);
        }
        ShingleBank each = on("cells 12;sizes 6;heap 1 0 0 160;heap 1 0 1 160;heap 1 0 2 160;heap 1 4 2 160;heap 7 5 1 160;heap 11 5 1 160;", "move=stuff+1+size+cell/7*4;wear=8*stuff;");
        due("of each as many as is said for it", each.wave(0, 1, 1, 0), 10 + 20 + 30 + 70 + 110 + 110);
        int[][] stay = {{1, 0, 0, 150}, {1, 0, 1, 140}, {1, 0, 2, 130}, {1, 4, 2, 90}, {7, 5, 1, 50}, {11, 5, 1, 50 + 55}, {2, 0, 0, 10}, {2, 0, 1, 10}, {2, 0, 2, 0}, {2, 3, 2, 70}, {8, 5, 1, 55}, {8, 4, 1, 55}, {11, 4, 1, 55}};
        for (int[] s : stay) {
            due("CELL " + s[0] + ", SIZE " + s[1] + ", STUFF " + s[2], each.stones(s[0], s[1], s[2]), s[3]);
        }
        due("SAND of STUFF 1 and 2", each.sums(2), 10 + 30);
        ShingleBank crests = on("cells 3;heap 0 0 0 16;heap 1 0 0 16;heap 2 0 0 16;crest 0 3;crest 2 5;", "move=if cell=1 then 0 else crest;");
        due("each by its own crest", crests.wave(0, 1, 1, 0), 3 + 5);
        ShingleBank waves = on("cells 2;heap 0 0 0 1600;", "move=height/2+beat/4+from;");
        due("by its height, beat, from", waves.wave(0, 8, 16, 0), 800);
        ShingleBank shares = on("cells 3;heap 0 0 0 16;heap 1 0 0 8;heap 1 1 0 8;", "move=above*2;");
        due("above counts none that came in this HOUR: 16 of 16 of 8", shares.wave(0, 1, 1, 0), 8);
        ShingleBank gone = on("cells 2;heap 0 0 0 8;heap 0 1 0 8;", "move=if size=0 then 16 else below;");
        due("below counts those that went in this HOUR", gone.wave(0, 1, 1, 0), 8 + 4);
        ShingleBank two = on("cells 2;heap 0 1 0 16;", "move=16;");
        two.wave(0, 1, 1, 0);
        due("the next WAVE sees them where they are then", two.wave(0, 1, 1, 1), 16);
        due("back again", two.stones(0, 1, 0), 16);
    }

    // ---- over ----

    private static void overs() {
        sentence("Then, CELL by CELL: if what over says (size, stuff, above, below 0) is more than the crest, the crest is one less (not below 1), that is an OVER, and");
        for (int crest : new int[]{1, 2, 3, 20, 59, 60}) {
            for (int more = -1; more <= 2; more++) {
                ShingleBank b = on("cells 2;crest 0 " + crest + ";crest 1 60;", "over=if cell=0 then " + (crest + more) + " else 0;");
                b.wave(0, 1, 1, 0);
                due("OVERS, " + more + " more than " + crest, b.cell(0, 2), more > 0 ? 1 : 0);
                due("crest, " + more + " more than " + crest, b.cell(0, 0), more > 0 ? Math.max(1, crest - 1) : crest);
                due("the other CELL", b.cell(1, 2), 0);
            }
        }
        ShingleBank down = on("cells 2;crest 0 3;", "over=if cell=0 then 9999 else 0-9999;");
        for (int i = 1; i <= 5; i++) {
            down.wave(0, 1, 1, 0);
            due("OVERS then", down.cell(0, 2), i);
            due("crest then, not below 1", down.cell(0, 0), Math.max(1, 3 - i));
        }
        ShingleBank high = on("cells 2;crest 0 5;", "over=if cell=0 then crest+1 else crest;");
        high.wave(0, 1, 1, 0);
        due("one more than the crest itself", high.cell(0, 2), 1);
        due("as much as the crest itself", high.cell(1, 2), 0);
        ShingleBank zeros = on("cells 2;heap 0 0 0 8;heap 0 1 1 8;heap 0 3 2 8;crest 0 1;", "over=size+stuff+above+below+1;");
        zeros.wave(0, 1, 1, 0);
        due("size, stuff, above, below are 0: 1 is not more than 1", zeros.cell(0, 2), 0);
        ShingleBank wraps = on("cells 2;crest 0 1;", "over=2048*1024*1024-1+beat;");
        wraps.wave(0, 1, 1, 0);
        due("what wrapped is less", wraps.cell(0, 2), 0);
        ShingleBank all = on("cells 12;crest 3 9;crest 11 8;", "over=cell+8;");
        all.wave(0, 1, 1, 0);
        for (int c = 0; c < 12; c++) {
            // CELL 3 lets 11 over its 9, CELL 11 19 over its 8; all others say less than their 20
            due("CELL by CELL, " + c, all.cell(c, 2), c == 3 || c == 11 ? 1 : 0);
            due("its own crest, " + c, all.cell(c, 0), c == 3 ? 8 : c == 11 ? 7 : 20);
        }
        ShingleBank behind = on("cells 2;crest 0 5;heap 0 0 0 16;", "move=crest;over=6;");
        due("behind the moving: that was by the crest as it was", behind.wave(0, 1, 1, 0), 5);
        due("and by the lower one the next time", behind.wave(0, 1, 1, 0), 11 * 4 / 16 + 5);
    }

    private static void behind() {
        sentence("and of each SIZE and STUFF there as much as a 16th (cut) goes BEHIND, for ever.");
        for (int n : SOME) {
            ShingleBank b = on("cells 2;heap 0 1 1 " + n + ";heap 1 1 1 " + n + ";crest 0 1;", "over=2;");
            b.wave(0, 1, 1, 0);
            due("of " + n, b.stones(0, 1, 1), n - n / 16);
            due("of " + n + ", the other CELL", b.stones(1, 1, 1), n);
            due("of " + n + ", BEHIND", b.sums(3), n / 16);
            b.wave(0, 1, 1, 0);
            due("of " + n + ", once more", b.sums(3), n / 16 + (n - n / 16) / 16);
            due("of " + n + ", for ever", b.stones(-1, -1, -1) + b.sums(3), 2 * n);
        }
        StringBuilder beach = new StringBuilder("cells 2;sizes 2;crest 1 1;");
        for (int i = 0; i < 6; i++) {
            beach.append("heap 1 ").append(i / 3).append(' ').append(i % 3).append(i < 3 ? " 15;" : " 16;");
        }
        ShingleBank each = on(beach.toString(), "over=2;");
        each.wave(0, 1, 1, 0);
        due("of each apart: of 15 none, of 16 one", each.sums(3), 3);
        ShingleBank moved = on("cells 2;heap 0 1 0 16;crest 1 1;", "move=16;over=2;");
        moved.wave(0, 1, 1, 0);
        due("of those that have just come", moved.stones(1, 1, 0), 15);
    }

    // ---- springs and lorries ----

    private static void springs() {
        sentence("Then springs in the order told;");
        ShingleBank b = on("cells 2;crest 0 1;spring 0 0 0 999;spring 0 0 0 1;spring 1 3 2 16;", "move=16;wear=16;over=2;");
        b.wave(0, 1, 1, 0);
        due("behind wave and OVER: all 1,000", b.stones(0, 0, 0), 1000);
        due("another one", b.stones(1, 3, 2), 16);
        due("come", b.sums(1), 1016);
        due("each HOUR", b.wave(0, 1, 1, 0), 1016);
        due("come", b.sums(1), 2032);
        ShingleBank eight = on("cells 2;" + many("spring 1 1 1 999;", 8));
        eight.wave(0, 1, 1, 0);
        due("8 of 999", eight.stones(1, 1, 1), 7992);
    }

    private static void lorries() {
        sentence("then, if HOURS gone (this one too) leave 0 by D, lorries in the order told:");
        for (int every : new int[]{1, 2, 3, 7, 59, 60, 98, 99}) {
            ShingleBank b = on("cells 2;heap 0 0 0 9999;lorry 0 2 1 " + every + ";");
            int told = 0;
            for (int hour = 1; hour <= 200; hour++) {
                b.wave(0, 1, 1, 0);
                told += hour % every == 0 ? 1 : 0;
                if (hour % every < 2 || hour % every == every - 1) {
                    due("each " + every + ", HOUR " + hour, b.sums(4), told);
                }
            }
        }
        ShingleBank b = on("cells 2;heap 0 0 0 9999;lorry 0 2 1 60;lorry 0 1 1 99;");
        pass(b, 0, 0, 599);
        due("ahead of HOUR 600", b.sums(4), 9);
        due("each 99", b.stones(1, 0, 0), 6);
        b.wave(0, 1, 1, 0);
        due("the last HOUR", b.sums(4), 10);
        ShingleBank order = on("cells 3;heap 0 1 0 5;lorry 0 1 5 1;lorry 1 2 5 1;lorry 2 3 2 1;");
        order.wave(0, 1, 1, 0);
        due("in their order: all the way", order.stones(2, 1, 0), 3);
        due("in their order: sold", order.sums(4), 2);
        ShingleBank back = on("cells 3;heap 0 1 0 5;lorry 2 3 2 1;lorry 1 2 5 1;lorry 0 1 5 1;");
        back.wave(0, 1, 1, 0);
        due("the other way: a CELL an HOUR", back.stones(1, 1, 0), 5);
        ShingleBank spring = on("cells 2;spring 0 0 0 5;lorry 0 2 5 1;");
        spring.wave(0, 1, 1, 0);
        due("behind springs", spring.sums(4), 5);
    }

    private static void lorryLoads() {
        sentence("from the greatest SIZE on, of a SIZE by STUFF, as many as there are, N at most");
        String heaps = "cells 2;sizes 3;heap 0 2 0 2;heap 0 2 1 2;heap 0 2 2 2;heap 0 1 0 2;heap 0 1 1 2;heap 0 1 2 2;heap 0 0 0 2;heap 0 0 1 2;heap 0 0 2 2;";
        for (int n = 1; n <= 20; n++) {
            for (int to = 1; to <= 2; to++) {
                ShingleBank b = on(heaps + "lorry 0 " + to + " " + n + " 1;");
                b.wave(0, 1, 1, 0);
                int load = Math.min(18, n);
                due(n + " to " + to + ", gone", b.stones(0, -1, -1), 18 - load);
                due(n + " to " + to + ", sold", b.sums(4), to == 2 ? load : 0);
                due(n + " to " + to + ", brought", b.stones(1, -1, -1), to == 2 ? 0 : load);
                int left = load;
                for (int size = 2; size >= 0; size--) {
                    for (int stuff = 0; stuff < 3; stuff++) {
                        int taken = Math.min(2, left);
                        left -= taken;
                        due(n + " to " + to + ", SIZE " + size + ", STUFF " + stuff, b.stones(0, size, stuff), 2 - taken);
                        due(n + " to " + to + ", there", b.stones(1, size, stuff), to == 2 ? 0 : taken);
                    }
                }
            }
        }
        ShingleBank none = on("cells 2;lorry 0 1 999 1;");
        none.wave(0, 1, 1, 0);
        due("of nothing nothing", none.stones(-1, -1, -1), 0);
        ShingleBank most = on("cells 2;heap 0 0 0 1000;lorry 0 1 999 1;");
        most.wave(0, 1, 1, 0);
        due("999 of 1,000", most.stones(0, 0, 0), 1);
    }

    // ---- hours ----

    private static void hours() {
        sentence("HOURS: 600 at most.");
        ShingleBank b = on("cells 2;spring 0 0 0 1;", "", many("wave 1 1 0 times 9;", 20));
        pass(b, 0, 0, 599);
        due("599", b.told(6), 599);
        due("the last wave", b.wave(0, 1, 1, 0), 0);
        due("600", b.told(6), 600);
        refused(b, "wave", BARRED, () -> b.wave(0, 1, 1, 0));
        refused(b, "run", BARRED, () -> b.run(0, 0));
        refused(b, "lots", BARRED, () -> b.lots(0, 0, 1, 0));
        due("still 600", b.told(6), 600);
        due("nothing came in a 601st", b.sums(1), 600);
        ShingleBank run = on("cells 2;", "", "wave 1 1 0 times 9;");
        pass(run, 0, 0, 590);
        due("a YEAR that has room", run.run(0, 0), 9);
        due("a YEAR that has not", run.run(0, 0), 1);
        due("600", run.told(6), 600);
        ShingleBank lots = on("cells 2;");
        pass(lots, 0, 0, 401);
        due("LOTS that have no room", lots.lots(0, 0, 200, 0), 199);
        due("600", lots.told(6), 600);
        ShingleBank exact = on("cells 2;");
        pass(exact, 0, 0, 400);
        due("LOTS that have room", exact.lots(0, 0, 200, 0), 200);
        due("a new BEACH begins anew", Texts.beach(exact, "cells 2;"), 2);
        due("HOURS", exact.told(6), 0);
        due("goes on", exact.run(0, 0), 1);
    }

    private static String sumsOfStones(ShingleBank b) {
        StringBuilder all = new StringBuilder();
        for (int c = 0; c < b.told(0); c++) {
            all.append(b.stones(c, 0, 0)).append(' ');
        }
        return all.toString();
    }

    /** What the document's words draw, by numbers that can't wrap. */
    private static int[] draws(int seed, int hours, int waves) {
        int[] drawn = new int[hours];
        long s = seed & 0xffffffffL;
        for (int i = 0; i < hours; i++) {
            s = (s * 1103515245L + 12345L) % 4294967296L;
            drawn[i] = (int) (s / 65536L % 32768L % waves);
        }
        return drawn;
    }

    private static void lots() {
        sentence("BY LOTS from a YEAR: for each HOUR a DRAW of its waves (each as one, times no matter)");
        for (int waves = 1; waves <= 20; waves++) {
            StringBuilder year = new StringBuilder();
            for (int i = 0; i < waves; i++) {
                year.append("wave ").append(i + 1).append(" 1 ").append(i % 2).append(i % 3 == 0 ? " times 9;" : ";");
            }
            ShingleBank byLot = on("cells 4;heap 0 0 0 999;heap 2 0 0 9999;", "move=height;", year.toString());
            ShingleBank byHand = on("cells 4;heap 0 0 0 999;heap 2 0 0 9999;", "move=height;");
            due("as many HOURS as asked for", byLot.lots(0, 0, 30, 20261119 + waves), 30);
            for (int i : draws(20261119 + waves, 30, waves)) {
                byHand.wave(0, i + 1, 1, i % 2);
            }
            due("of " + waves + " waves", sumsOfStones(byLot).equals(sumsOfStones(byHand)) ? 1 : 0, 1);
        }
    }

    private static void seeds() {
        sentence("the SEED (32 bits) becomes itself times 1,103,515,245, and 12,345 (it wraps); what its bits 16 to 30 leave by how many");
        for (int seed : new int[]{0, 1, -1, 2, MAX, MIN, MAX - 1, MIN + 1, 65535, 65536, 12345, -12345, 0x7fff0000, 0x80000000, 0xffff0000}) {
            ShingleBank byLot = on("cells 5;heap 2 0 0 9999;", "move=height;", "wave 1 1 0;wave 5 1 1;wave 11 1 0;wave 16 1 1;wave 3 1 0;wave 7 1 1;wave 9 1 0;");
            ShingleBank byHand = on("cells 5;heap 2 0 0 9999;", "move=height;");
            int[] heights = {1, 5, 11, 16, 3, 7, 9};
            due("HOURS by " + seed, byLot.lots(0, 0, 40, seed), 40);
            for (int i : draws(seed, 40, 7)) {
                byHand.wave(0, heights[i], 1, i % 2);
            }
            due("by SEED " + seed, sumsOfStones(byLot).equals(sumsOfStones(byHand)) ? 1 : 0, 1);
        }
        // 0 becomes 12345, whose bits 16 and more are 0; 1 becomes 1103527590, of which these are 16838
        ShingleBank zero = on("cells 2;heap 0 0 0 16;", "move=height;", "wave 16 1 0;wave 1 1 0;wave 2 1 0;");
        zero.lots(0, 0, 1, 0);
        due("SEED 0 draws the first", zero.stones(1, 0, 0), 16);
        ShingleBank one = on("cells 2;heap 0 0 0 16;", "move=height;", "wave 16 1 0;wave 1 1 0;wave 2 1 0;");
        one.lots(0, 0, 1, 1);
        due("SEED 1 draws what 16838 leaves by 3", one.stones(1, 0, 0), 2);
    }

    // ---- mean, order, horns ----

    private static void means() {
        sentence("MEAN of a CELL: 1,000 times all SIZES of its stones by how many they are (cut); NONE without stones.");
        int[][] lots = {{1, 0, 0}, {0, 1, 0}, {0, 0, 1}, {2, 1, 0}, {1, 2, 0}, {999, 1, 0}, {1000, 1, 0}, {1001, 1, 0}, {1, 1, 1}, {9999, 9999, 9999}, {1, 0, 9999}, {9999, 0, 1}};
        for (int[] n : lots) {
            ShingleBank b = on("cells 2;sizes 3;heap 1 0 0 " + n[0] + ";heap 1 1 2 " + n[1] + ";heap 1 2 1 " + n[2] + ";");
            due(n[0] + "," + n[1] + "," + n[2], b.mean(1), 1000L * (n[1] + 2 * n[2]) / (n[0] + n[1] + n[2]));
            due("without stones", b.mean(0), -1);
        }
        ShingleBank least = on("cells 2;heap 0 0 0 5;");
        due("0, not NONE", least.mean(0), 0);
    }

    private static void inOrder() {
        sentence("IN ORDER: of all two CELLS with stones how many whose MEAN of the one further on is no less.");
        due("alike", on("cells 2;heap 0 1 0 1;heap 1 1 0 5;").order(0), 1);
        due("one less", on("cells 2;heap 0 1 0 1;heap 1 1 0 999;heap 1 0 0 1;").order(0), 0);
        due("one more", on("cells 2;heap 0 1 0 999;heap 0 0 0 1;heap 1 1 0 1;").order(0), 1);
        // a third is 333 as a MEAN, and so is 333 of 1,000
        due("as cut as MEAN is", on("cells 2;heap 0 1 0 1;heap 0 0 0 2;heap 1 1 0 333;heap 1 0 0 667;").order(0), 1);
        due("MEAN 0 is one", on("cells 2;heap 0 0 0 1;heap 1 0 0 1;").order(0), 1);
        due("one without stones", on("cells 2;heap 0 0 0 1;").order(0), 0);
        due("one without stones is no pair", on("cells 2;heap 0 0 0 1;").order(1), 0);
        due("two", on("cells 2;heap 0 1 0 1;heap 1 0 0 1;").order(1), 1);
        ShingleBank far = on("cells 12;heap 0 0 0 1;heap 11 1 0 1;");
        due("the first and the last", far.order(0), 1);
        due("of one", far.order(1), 1);
        StringBuilder all = new StringBuilder("cells 12;");
        for (int c = 0; c < 12; c++) {
            all.append("heap ").append(c).append(" 1 0 1;");
        }
        due("all alike", on(all.toString()).order(0), 66);
        due("of all two", on(all.toString()).order(1), 66);
    }

    private static void horns() {
        sentence("HORNS: CELLS of more stones than the one ahead and the next one (those there are).");
        due("no stones, none", on("cells 2;").order(2), 0);
        due("the first, one more", on("cells 2;heap 0 0 0 2;heap 1 0 0 1;").horn(0), 0);
        due("the last, one more", on("cells 2;heap 0 0 0 1;heap 1 0 0 2;").horn(0), 1);
        due("alike, none", on("cells 2;heap 0 0 0 2;heap 1 0 0 2;").order(2), 0);
        due("between, one more", on("cells 3;heap 0 0 0 1;heap 1 0 0 2;heap 2 0 0 1;").horn(0), 1);
        due("between, as many as the one ahead", on("cells 3;heap 0 0 0 2;heap 1 0 0 2;heap 2 0 0 1;").order(2), 0);
        due("between, as many as the next one", on("cells 3;heap 0 0 0 1;heap 1 0 0 2;heap 2 0 0 2;").order(2), 0);
        due("both ends", on("cells 3;heap 0 0 0 2;heap 1 0 0 1;heap 2 0 0 2;").order(2), 2);
        due("all SIZES and STUFF", on("cells 2;heap 0 0 0 2;heap 1 0 1 1;heap 1 2 0 1;heap 1 3 2 1;").horn(0), 1);
        StringBuilder every = new StringBuilder("cells 12;");
        for (int c = 1; c < 12; c += 2) {
            every.append("heap ").append(c).append(" 1 0 1;");
        }
        ShingleBank b = on(every.toString());
        due("six", b.order(2), 6);
        due("the sixth", b.horn(5), 11);
        due("a seventh", b.horn(6), -1);
    }
}
