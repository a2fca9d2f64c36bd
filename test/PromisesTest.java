import java.util.NoSuchElementException;

/** Promise by promise, told by hand: what is ordinary, the edges that the document names, what it refuses. */
public final class PromisesTest {
    private interface Call {
        long answer();
    }

    private static final Class<?> OUTSIDE = IndexOutOfBoundsException.class;
    private static final Class<?> MISSING = NoSuchElementException.class;
    private static final Class<?> WRONG = IllegalArgumentException.class;
    private static final Class<?> BARRED = IllegalStateException.class;
    private static final int MIN = Integer.MIN_VALUE;
    private static final int MAX = Integer.MAX_VALUE;

    private static int checks = 0;
    private static int wrongs = 0;

    private PromisesTest() {
    }

    private static void due(int promise, String what, long got, long want) {
        checks++;
        if (got != want) {
            wrongs++;
            System.out.println("promise " + promise + ": " + what + " answered " + got + ", due is " + want);
        }
    }

    private static void refused(int promise, String what, Class<?> by, Call call) {
        checks++;
        String got;
        try {
            got = "answered " + call.answer();
        } catch (RuntimeException e) {
            if (e.getClass() == by) {
                return;
            }
            got = "throws " + e;
        }
        wrongs++;
        System.out.println("promise " + promise + ": " + what + " " + got + ", due is " + by.getSimpleName());
    }

    private static ShingleBank on(String beach, String law, String year) {
        ShingleBank b = new ShingleBank();
        due(3, "beach " + beach, Texts.beach(b, beach) > 0 ? 1 : 0, 1);
        due(4, "law " + law, Texts.law(b, law), 0);
        due(5, "year " + year, Texts.year(b, year), 0);
        return b;
    }

    private static ShingleBank on(String beach) {
        return on(beach, "", "wave 1 1 0;");
    }

    private static String many(String part, int n) {
        StringBuilder all = new StringBuilder();
        for (int i = 0; i < n; i++) {
            all.append(part);
        }
        return all.toString();
    }

    public static void main(String[] args) {
        newObject();
        feed();
        beach();
        beachFaults();
        law();
        lawAnew();
        lawFaults();
        year();
        fault();
        told();
        stones();
        cell();
        put();
        says();
        saysWhole();
        wave();
        waveAtEnds();
        waveOver();
        waveSpringsAndLorries();
        run();
        lots();
        mean();
        order();
        horn();
        sound();
        takeAndDrop();
        wordAndOdds();
        where();
        found();
        miles();
        lost();
        look();
        left();
        sample();
        which();
        cost();
        raised();
        brought();
        sums();
        last();
        like();
        walls();
        high();
        one();
        seen();
        imageAndRestore();
        imageOfHand();
        fullSize();
        status();
        count();
        lifeOf512();
        System.out.println(checks + " checks, " + wrongs + " wrong");
        if (wrongs > 0) {
            System.exit(1);
        }
    }

    private static void newObject() {
        ShingleBank b = new ShingleBank();
        due(1, "NONE", ShingleBank.NONE, -1);
        for (int what = 0; what <= 6; what++) {
            due(1, "told " + what, b.told(what), 0);
        }
        for (int what = 0; what <= 3; what++) {
            due(1, "count " + what, b.count(what), 0);
            due(1, "status " + what, b.status(what), 0);
            due(1, "order " + what, b.order(what), 0);
        }
        for (int what = 0; what <= 4; what++) {
            due(1, "sums " + what, b.sums(what), 0);
        }
        for (int what = 0; what <= 2; what++) {
            due(1, "where " + what, b.where(what), -1);
        }
        due(1, "fault", b.fault(), -1);
        due(1, "stones of all", b.stones(-1, -1, -1), 0);
        due(1, "stones of all painted", b.stones(-1, -1, 2), 0);
        due(1, "horn", b.horn(0), -1);
        due(1, "one", b.one(0), -1);
        due(1, "one, how far", b.one(1), -1);
        due(1, "lost", b.lost(), 0);
        due(1, "drop", b.drop(), 0);
        due(1, "restore", b.restore(), -1);
        refused(1, "cell", OUTSIDE, () -> b.cell(0, 0));
        refused(1, "take", WRONG, () -> b.take(0, 0));
        refused(1, "look", WRONG, () -> b.look(0, 1, 0));
        refused(1, "stones of a SIZE", WRONG, () -> b.stones(-1, 0, -1));
        due(1, "image", b.image(), 1);
        due(1, "restore of it", b.restore(), 0);
    }

    private static void feed() {
        ShingleBank b = new ShingleBank();
        due(2, "20 bytes", b.feed(0x63656c6c, 0x73203330, 0x3b3b3b3b, -1, MIN), 20);
        due(2, "count", b.count(2), 20);
        // "cells 3" and then "0": the bytes of a number come the highest first
        due(2, "highest first: cells 30", b.beach(8), -8);
        due(2, "the place", b.fault(), 6);
        due(2, "the tape is empty", b.count(2), 0);
        due(2, "again", b.feed(0x63656c6c, 0x7320333b, 0, 0, 0), 20);
        due(2, "cells 3", b.beach(8), 3);
        String five = "cells 12;sizes 3; ;;";
        int[] n = Texts.numbers(five, 0);
        b.feed(n[0], n[1], n[2], n[3], n[4]);
        due(2, "all five numbers, in their order", b.beach(20), -9);
        due(2, "all five numbers: the place", b.fault(), 18);
        for (int i = 1; i <= 30; i++) {
            due(2, "feed " + i, b.feed(i, i, i, i, i), 20 * i);
        }
        due(2, "a 31st", b.feed(1, 2, 3, 4, 5), -1);
        due(2, "nothing came", b.count(2), 600);
        due(2, "a byte of the tape that is not text", b.law(600), -9);
        due(2, "a feed behind that", b.feed(0, 0, 0, 0, 0), 20);
    }

    private static void beach() {
        ShingleBank b = new ShingleBank();
        due(3, "an empty text", b.beach(0), 6);
        due(3, "4 SIZES without", b.told(1), 4);
        due(3, "crest without", b.cell(5, 0), 20);
        due(3, "only blanks", Texts.beach(b, "   "), 6);
        refused(3, "n below 0", WRONG, () -> b.beach(-1));
        b.feed(0x63656c6c, 0x73203330, 0, 0, 0);
        refused(3, "n above the tape", WRONG, () -> b.beach(21));
        due(3, "the tape stays", b.count(2), 20);
        due(3, "BEACH stays", b.told(0), 6);
        due(3, "of a tape nothing", b.beach(0), 6);
        due(3, "cells and sizes", Texts.beach(b, "cells 2;sizes 6;"), 2);
        due(3, "SIZES", b.told(1), 6);
        due(3, "sizes ahead", Texts.beach(b, " sizes 2 ; cells 12 ;heap 11 1 2 9999;  "), 12);
        due(3, "SIZES", b.told(1), 2);
        due(3, "heap", b.stones(11, 1, 2), 9999);
        due(3, "no blanks where none are needed", Texts.beach(b, "cells5;heap0 1 2 0003;heap0 1 2 4;"), 5);
        due(3, "the last heap counts", b.stones(-1, -1, -1), 4);
        due(3, "the last heap may be 0", Texts.beach(b, "heap 5 3 0 7;heap 5 3 0 0;"), 6);
        due(3, "none", b.stones(-1, -1, -1), 0);
        due(3, "crests and walls", Texts.beach(b, "crest 0 1;crest 5 60;wall 0 1;wall 4 16;wall 4 2;crest 1 7;crest 1 8;"), 6);
        due(3, "crest", b.cell(0, 0), 1);
        due(3, "crest", b.cell(5, 0), 60);
        due(3, "crest told twice", b.cell(1, 0), 8);
        due(3, "wall", b.cell(0, 1), 1);
        due(3, "wall told twice", b.cell(4, 1), 2);
        due(3, "springs, lorries", Texts.beach(b, many("spring 5 3 2 999;", 8) + many("lorry 5 6 999 99;", 4)), 6);
        due(3, "springs", b.told(2), 8);
        due(3, "lorries", b.told(3), 4);
        due(3, "60 clauses", Texts.beach(b, many("wall 0 1;", 60)), 6);
        due(3, "springs of the one ahead are gone", b.told(2), 0);
        due(3, "lorries of the one ahead are gone", b.told(3), 0);
        beachAgain();
    }

    private static void beachAgain() {
        ShingleBank b = on("cells 3;heap 0 0 2 32;", "move=8;over=30;", "wave 1 1 0;");
        b.wave(0, 1, 1, 0);
        b.put(0, 0, 2, 5);
        b.take(0, 0);
        b.sample(0, 0, 7);
        b.image();
        due(3, "a faulty one", Texts.beach(b, "cells 1;"), -8);
        due(3, "all stays: CELLS", b.told(0), 3);
        due(3, "all stays: HOURS", b.told(6), 1);
        due(3, "all stays: HANDFUL", b.count(0), 1);
        due(3, "all stays: IMAGES", b.count(1), 1);
        due(3, "all stays: SAMPLE", b.count(3), 1);
        due(3, "all stays: OVERS", b.cell(0, 2), 1);
        due(3, "but the TAPE", b.count(2), 0);
        due(3, "a new one, fewer bytes than on the tape", Texts.beach(b, "cells 4;heap 0 0 2 1;"), 4);
        due(3, "HOURS as at first", b.told(6), 0);
        due(3, "HANDFUL as at first", b.count(0), 0);
        due(3, "IMAGES as at first", b.count(1), 0);
        due(3, "SAMPLE as at first", b.sample(0, 0, -1), -1);
        due(3, "SUMS as at first", b.sums(0), 1);
        due(3, "BEHIND as at first", b.sums(3), 0);
        due(3, "OVERS as at first", b.cell(0, 2), 0);
        due(3, "crest as at first", b.cell(0, 0), 20);
        due(3, "LOST as at first", b.lost(), 0);
        due(3, "LAWS stay", b.told(4), 1);
        due(3, "YEARS stay", b.told(5), 1);
        Texts.feed(b, "cells 5;cells 5;cells 5;");
        due(3, "only the first n bytes", b.beach(8), 5);
        due(3, "the TAPE is empty then", b.count(2), 0);
        beachAnew();
    }

    /** Nothing of an older text, nor of a faulty one, may come back. */
    private static void beachAnew() {
        ShingleBank b = on("cells 4;heap 0 0 0 9;crest 1 5;wall 1 6;spring 2 0 0 1;lorry 2 3 1 1;", "", "wave 1 1 0;");
        for (int i = 0; i < 4; i++) {
            if (i == 2) {
                due(3, "a faulty one", Texts.beach(b, "cells 9;heap 0 0 0 9;crest 1 7;wall 1 7;spring 0 0 0 1;lorry 0 1 1 1;x"), -9);
            }
            due(3, "an empty one", Texts.beach(b, ""), 6);
            due(3, "no stones", b.stones(-1, -1, -1), 0);
            due(3, "no crest told", b.cell(1, 0), 20);
            due(3, "no walls", b.cell(1, 1), 0);
            due(3, "no springs", b.told(2), 0);
            due(3, "no lorries", b.told(3), 0);
        }
        ShingleBank c = on("cells 4;spring 2 0 0 1;lorry 2 3 1 1;", "", "wave 1 1 0;");
        due(3, "a faulty one", Texts.beach(c, "spring 1 0 0 5;spring 1 1 1 7;lorry 0 2 1 9;cells"), -6);
        due(3, "springs stay", c.told(2), 1);
        due(3, "lorries stay", c.told(3), 1);
        c.wave(0, 1, 1, 0);
        due(3, "and do what they did", c.stones(3, 0, 0), 1);
        due(3, "and no more than that", c.sums(1), 1);
    }

    private static void beachFault(String text, int kind, int place) {
        ShingleBank b = new ShingleBank();
        due(3, "faulty " + text, Texts.beach(b, text), kind - 10);
        due(6, "fault of " + text, b.fault(), place);
        due(3, "no BEACH by " + text, b.told(0), 0);
    }

    private static void beachFaults() {
        beachFault("cell 3;", 1, 0);
        beachFault("  Cells 3;", 1, 2);
        beachFault("bells 3;", 1, 0);
        beachFault("leap 0 0 0 1;", 1, 0);
        beachFault("cellz 3;", 1, 0);
        beachFault("cells", 1, 5);
        beachFault("cells  ", 1, 7);
        beachFault("cells 3", 1, 7);
        beachFault("cells 3 ", 1, 8);
        beachFault("cells x;", 1, 6);
        beachFault("cells -3;", 1, 6);
        beachFault("cells 3 x;", 1, 8);
        beachFault("cells 3;;", 1, 8);
        beachFault("3;", 1, 0);
        beachFault("wave 1 1 0;", 1, 0);
        beachFault("cells 3;\u0000", 1, 8);
        beachFault("cells\t3;", 1, 5);
        beachFault("cells 1;", 2, 6);
        beachFault("cells 13;", 2, 6);
        beachFault("sizes 1;", 2, 6);
        beachFault("sizes   7;", 2, 8);
        beachFault("cells 4294967298;", 2, 6);
        beachFault("cells 99999999999999999999;", 2, 6);
        beachFault("heap 6 0 0 1;", 2, 5);
        beachFault("heap 0 4 0 1;", 2, 7);
        beachFault("heap 0 0 3 1;", 2, 9);
        beachFault("heap 0 0 0 10000;", 2, 11);
        beachFault("heap 0 0 0;", 1, 10);
        beachFault("cells 3;heap 3 0 0 1;", 2, 13);
        beachFault("sizes 3;heap 0 3 0 1;", 2, 15);
        beachFault("crest 6 1;", 2, 6);
        beachFault("crest 0 0;", 2, 8);
        beachFault("crest 0 61;", 2, 8);
        beachFault("wall 5 1;", 2, 5);
        beachFault("wall 0 0;", 2, 7);
        beachFault("wall 0 17;", 2, 7);
        beachFault("spring 6 0 0 1;", 2, 7);
        beachFault("spring 0 0 0 0;", 2, 13);
        beachFault("spring 0 0 0 1000;", 2, 13);
        beachFault("lorry 6 0 1 1;", 2, 6);
        beachFault("lorry 0 7 1 1;", 2, 8);
        beachFault("lorry 4 4 1 1;", 2, 8);
        beachFault("lorry 0 1 0 1;", 2, 10);
        beachFault("lorry 0 1 1000 1;", 2, 10);
        beachFault("lorry 0 1 1 0;", 2, 12);
        beachFault("lorry 0 1 1 100;", 2, 12);
        beachFault(many("spring 0 0 0 1;", 9), 3, 120);
        beachFault(many("lorry 0 1 1 1;", 4) + " lorry 0 1 1 1;", 3, 57);
        beachFault(many("wall 0 1;", 60) + "crest 0 1;", 3, 540);
        beachFault(many("wall 0 1;", 60) + "crust 0 1;", 1, 540);
        beachFault(many("wall 0 1;", 60) + "cells 3;", 3, 540);
        beachFault(many("wall 0 1;", 59) + " cells 3;", 4, 532);
        beachFault("cells 3;cells 3;", 4, 8);
        beachFault("sizes 3;cells 3;sizes 3;", 4, 16);
        beachFault("cells 3;crest 0 1;sizes 3;", 4, 18);
        beachFault("wall 0 1;cells;", 4, 9);
        beachFault("heap 0 0 0 1;sizes 99;", 4, 13);
        beachFault("spring 0 0 0 1;sizes 3;", 4, 15);
        beachFault("lorry 0 1 1 1;cells 3;", 4, 14);
    }

    private static void law() {
        ShingleBank b = new ShingleBank();
        refused(4, "n below 0", WRONG, () -> b.law(-1));
        refused(4, "n above the tape", WRONG, () -> b.law(1));
        due(4, "an empty one", b.law(0), 0);
        due(4, "a faulty one", Texts.law(b, "move=x;"), -9);
        due(4, "is no LAW", b.told(4), 1);
        due(4, "each once", Texts.law(b, "over=1;move=2;wear=3;"), 1);
        due(4, "six open at one time", Texts.law(b, "move=((((((1))))))+((((((1))))));"), 2);
        due(4, "blanks", Texts.law(b, " move = if not [ size < 1 ] then ( 1 ) else 2 * 3 ; "), 3);
        due(4, "LAWS", b.told(4), 4);
        Texts.feed(b, "move=x;");
        due(4, "a fifth, ahead of reading it", b.law(7), -1);
        Texts.beach(b, "x");
        Texts.feed(b, "move=1;");
        due(4, "a fifth", b.law(7), -1);
        due(4, "no FAULT", b.fault(), -1);
        due(4, "the TAPE is empty", b.count(2), 0);
        due(4, "LAWS", b.told(4), 4);
        refused(4, "n above the tape with 4", WRONG, () -> b.law(1));
        due(4, "and the first ones are as told", Texts.beach(b, ""), 6);
        due(4, "over of the second", b.says(1, 2, 0, 0, 0, 1, 1, 0), 1);
        due(4, "wear of the second", b.says(1, 1, 0, 0, 0, 1, 1, 0), 3);
        due(4, "move of the first", b.says(0, 0, 0, 0, 0, 1, 1, 0), 0);
    }

    /** Nothing of a faulty text may stay. */
    private static void lawAnew() {
        ShingleBank b = on("cells 2;");
        due(4, "a faulty one", Texts.law(b, "move=5;wear=6;over=7;("), -9);
        due(4, "one that tells nothing", b.law(0), 1);
        for (int what = 0; what <= 2; what++) {
            due(4, "says nothing: " + what, b.says(1, what, 0, 0, 0, 1, 1, 0), 0);
        }
        due(4, "six are open at its FAULT", Texts.law(b, "over=((((((;"), -9);
        due(4, "none as the next begins", Texts.law(b, "over=((((((3))))));"), 2);
        due(4, "which says", b.says(2, 2, 0, 0, 0, 1, 1, 0), 3);
        StringBuilder sum = new StringBuilder("move=1");
        for (int i = 0; i < 296; i++) {
            sum.append(i % 2 == 0 ? "+1" : "-0");
        }
        due(4, "as long as may be", Texts.law(b, sum + ";"), 3);
        due(4, "which says", b.says(3, 0, 0, 0, 0, 1, 1, 0), 149);
    }

    private static void lawFault(String text, int kind, int place) {
        ShingleBank b = new ShingleBank();
        due(4, "faulty " + text, Texts.law(b, text), kind - 10);
        due(6, "fault of " + text, b.fault(), place);
        due(4, "no LAW by " + text, b.told(4), 0);
    }

    private static void lawFaults() {
        lawFault("mov=1;", 1, 0);
        lawFault("move 1;", 1, 5);
        lawFault("move=;", 1, 5);
        lawFault("move=1", 1, 6);
        lawFault("move=1  ", 1, 8);
        lawFault("move=1 2;", 1, 7);
        lawFault("move=-1;", 1, 5);
        lawFault("move=1+;", 1, 7);
        lawFault("move=(1;", 1, 7);
        lawFault("move=1);", 1, 6);
        lawFault("move=1+if 1=1 then 1 else 1;", 1, 7);
        lawFault("move=not 1=1;", 1, 5);
        lawFault("move=1<2;", 1, 6);
        lawFault("move=if 1 then 2 else 3;", 1, 10);
        lawFault("move=if 1=1 then 2;", 1, 18);
        lawFault("move=if 1=1 else 2;", 1, 12);
        lawFault("move=if 1=1 2 else 3;", 1, 12);
        lawFault("move=if 1=1 then 2 3;", 1, 19);
        lawFault("move=if (1=1) then 2 else 3;", 1, 10);
        lawFault("move=if [1] then 2 else 3;", 1, 10);
        lawFault("move=if [1=1 then 2 else 3;", 1, 13);
        lawFault("move=if 1=2=3 then 2 else 3;", 1, 11);
        lawFault("move=if 1<=3 then 2 else 3;", 1, 10);
        lawFault("move=sizes;", 1, 5);
        lawFault("move=then;", 1, 5);
        lawFault("move=10000;", 2, 5);
        lawFault("move=1*4294967297;", 2, 7);
        lawFault("over=(((((((1;", 3, 11);
        lawFault("over=(((1)))+((((((1))))))+(((((((1", 3, 33);
        lawFault("move=if not not not not not not 1=1 then 1 else 1;", 3, 28);
        lawFault("move=if [[[[[[1=1", 3, 13);
        lawFault("move=" + many("if 1=1 then 1 else ", 6) + " if 1=1 then 1 else 1;", 3, 5 + 6 * 19 + 1);
        lawFault("move=" + many("if 1=1 then ", 6) + "(1);", 3, 5 + 6 * 12);
        lawFault("move=if [not ((((1))))=1] then 1 else 1;", 3, 16);
        lawFault("move=1+((((((if", 3, 13);
        lawFault("move=1;move=2;", 4, 7);
        lawFault("over=1;wear=1; over", 4, 15);
        ShingleBank b = new ShingleBank();
        due(4, "an if in a row that ended", Texts.law(b, "move=" + many("if 1=1 then 1 else ", 6) + "1;over=" + many("if 1=1 then ", 6) + "1" + many(" else 2", 6) + ";"), 0);
        due(4, "a not till its B ends", Texts.law(b, "move=if " + many("not 1=1 and ", 8) + "not not not not not 1=1 then 1 else 1;"), 1);
        due(4, "[ till ]", Texts.law(b, "move=if " + many("[1=1]or", 8) + "[[[[[1=1]]]]] then 1 else 1;"), 2);
        due(4, "an if within a test", Texts.law(b, "move=if if 1=1 then 1 else 2=2 then 3 else 4;"), 3);
    }

    private static void year() {
        ShingleBank b = new ShingleBank();
        refused(5, "n below 0", WRONG, () -> b.year(-1));
        refused(5, "n above the tape", WRONG, () -> b.year(1));
        due(5, "an empty one", b.year(0), -9);
        due(5, "is no YEAR", b.told(5), 0);
        due(5, "20 waves", Texts.year(b, many("wave 30 20 1 times 9;", 20)), 0);
        due(5, "blanks", Texts.year(b, "  wave 1 1 0times 1 ; wave 1 1 1 ; "), 1);
        due(5, "a third", Texts.year(b, "wave 1 1 0;"), 2);
        due(5, "a fourth", Texts.year(b, "wave 1 1 0;"), 3);
        Texts.feed(b, "wave;");
        due(5, "a fifth, ahead of reading it", b.year(5), -1);
        Texts.beach(b, "x");
        Texts.feed(b, "wave 1 1 0;");
        due(5, "a fifth", b.year(11), -1);
        due(5, "no FAULT", b.fault(), -1);
        due(5, "the TAPE is empty", b.count(2), 0);
        refused(5, "n above the tape with 4", WRONG, () -> b.year(1));
        Texts.beach(b, "");
        b.law(0);
        due(5, "180 HOURS", b.run(0, 0), 180);
        due(5, "2 HOURS", b.run(0, 1), 2);
        ShingleBank c = on("");
        due(5, "a faulty one", Texts.year(c, many("wave 1 1 0;", 19) + "x"), -9);
        due(5, "nothing of it stays", Texts.year(c, "wave 1 1 0;wave 1 1 0;"), 1);
        due(5, "2 HOURS", c.run(0, 1), 2);
        yearFault("1 1 0;", 1, 0);
        yearFault("   ", 1, 3);
        yearFault("wave 1 1;", 1, 8);
        yearFault("wave 1 1 0", 1, 10);
        yearFault("wave 1 1 0 time 2;", 1, 11);
        yearFault("wave 1 1 0 times;", 1, 16);
        yearFault("wave 1 1 0 times 2 times 3;", 1, 19);
        yearFault("waves 1 1 0;", 1, 0);
        yearFault("wave 0 1 0;", 2, 5);
        yearFault("wave 31 1 0;", 2, 5);
        yearFault("wave 1 0 0;", 2, 7);
        yearFault("wave 1 21 0;", 2, 7);
        yearFault("wave 1 1 2;", 2, 9);
        yearFault("wave 1 1 0 times 0;", 2, 17);
        yearFault("wave 1 1 0 times 10;", 2, 17);
        yearFault(many("wave 1 1 0;", 21), 3, 220);
        yearFault(many("wave 1 1 0;", 20) + " times", 1, 221);
    }

    private static void yearFault(String text, int kind, int place) {
        ShingleBank b = new ShingleBank();
        due(5, "faulty " + text, Texts.year(b, text), kind - 10);
        due(6, "fault of " + text, b.fault(), place);
        due(5, "no YEAR by " + text, b.told(5), 0);
    }

    private static void fault() {
        ShingleBank b = new ShingleBank();
        Texts.beach(b, "cells 1;");
        due(6, "of a BEACH", b.fault(), 6);
        refused(6, "a call that reads no text", WRONG, () -> b.beach(1));
        due(6, "stays then", b.fault(), 6);
        Texts.law(b, "move=1");
        due(6, "of a LAW", b.fault(), 6);
        Texts.year(b, "wave 1 99 0;");
        due(6, "of a YEAR", b.fault(), 7);
        Texts.year(b, "wave 1 9 0;");
        due(6, "NONE without", b.fault(), -1);
        Texts.law(b, "=");
        due(6, "at the first byte", b.fault(), 0);
        Texts.beach(b, "");
        due(6, "NONE by an empty BEACH", b.fault(), -1);
        Texts.year(b, "x");
        b.image();
        b.restore();
        due(6, "no IMAGE keeps it", b.fault(), 0);
    }

    private static void told() {
        ShingleBank b = on("cells 7;sizes 5;spring 0 0 0 1;spring 0 0 0 1;lorry 0 1 1 1;");
        int[] want = {7, 5, 2, 1, 1, 1, 0};
        for (int what = 0; what <= 6; what++) {
            due(7, "told " + what, b.told(what), want[what]);
        }
        b.wave(0, 1, 1, 0);
        due(7, "HOURS", b.told(6), 1);
        refused(7, "what -1", WRONG, () -> b.told(-1));
        refused(7, "what 7", WRONG, () -> b.told(7));
    }

    private static void stones() {
        ShingleBank b = on("cells 2;sizes 2;heap 0 0 0 1;heap 0 1 2 20;heap 1 1 2 300;heap 1 0 1 4000;");
        due(8, "one", b.stones(0, 1, 2), 20);
        due(8, "none", b.stones(0, 1, 1), 0);
        due(8, "of all CELLS", b.stones(-1, 1, 2), 320);
        due(8, "of all SIZES", b.stones(1, -1, 2), 300);
        due(8, "of all STUFF", b.stones(0, 1, -1), 20);
        due(8, "of a CELL", b.stones(1, -1, -1), 4300);
        due(8, "of a SIZE", b.stones(-1, 0, -1), 4001);
        due(8, "of a STUFF", b.stones(-1, -1, 2), 320);
        due(8, "of all", b.stones(-1, -1, -1), 4321);
        refused(8, "CELL", OUTSIDE, () -> b.stones(2, 0, 0));
        refused(8, "CELL", OUTSIDE, () -> b.stones(-2, 0, 0));
        refused(8, "CELL ahead of SIZE", OUTSIDE, () -> b.stones(2, 9, 9));
        refused(8, "SIZE", WRONG, () -> b.stones(0, 2, 0));
        refused(8, "SIZE", WRONG, () -> b.stones(0, -2, 0));
        refused(8, "STUFF", WRONG, () -> b.stones(0, 0, 3));
        refused(8, "STUFF", WRONG, () -> b.stones(0, 0, -2));
    }

    private static void cell() {
        ShingleBank b = on("cells 2;crest 1 3;wall 0 9;", "over=beat;", "wave 1 1 0;");
        due(9, "crest", b.cell(1, 0), 3);
        due(9, "crest without", b.cell(0, 0), 20);
        due(9, "wall", b.cell(0, 1), 9);
        due(9, "wall without", b.cell(1, 1), 0);
        due(9, "OVERS", b.cell(1, 2), 0);
        b.wave(0, 1, 20, 0);
        b.wave(0, 1, 2, 0);
        b.wave(0, 1, 3, 0);
        due(9, "crest then", b.cell(1, 0), 1);
        due(9, "OVERS then", b.cell(1, 2), 2);
        due(9, "20 is not more than 20", b.cell(0, 2), 0);
        refused(9, "CELL", OUTSIDE, () -> b.cell(2, 0));
        refused(9, "CELL", OUTSIDE, () -> b.cell(-1, 0));
        refused(9, "CELL ahead of what", OUTSIDE, () -> b.cell(2, 9));
        refused(9, "what", WRONG, () -> b.cell(0, 3));
        refused(9, "what", WRONG, () -> b.cell(0, -1));
    }

    private static void put() {
        ShingleBank b = on("cells 2;sizes 2;heap 1 1 2 5;");
        due(10, "put", b.put(1, 1, 2, 999), 1004);
        due(10, "put", b.put(1, 1, 2, 1), 1005);
        due(10, "put elsewhere", b.put(0, 0, 0, 3), 3);
        due(10, "they are there", b.stones(-1, -1, -1), 1008);
        due(10, "SUMS", b.sums(0), 1008);
        due(10, "none is LOST", b.lost(), 0);
        refused(10, "CELL", OUTSIDE, () -> b.put(2, 9, 9, 0));
        refused(10, "CELL NONE", OUTSIDE, () -> b.put(-1, 0, 0, 1));
        refused(10, "SIZE", WRONG, () -> b.put(0, 2, 0, 1));
        refused(10, "SIZE NONE", WRONG, () -> b.put(0, -1, 0, 1));
        refused(10, "STUFF", WRONG, () -> b.put(0, 0, 3, 1));
        refused(10, "STUFF NONE", WRONG, () -> b.put(0, 0, -1, 1));
        refused(10, "0 stones", WRONG, () -> b.put(0, 0, 0, 0));
        refused(10, "1000 stones", WRONG, () -> b.put(0, 0, 0, 1000));
        due(10, "nothing was put then", b.stones(-1, -1, -1), 1008);
    }

    private static long value(String text) {
        ShingleBank b = on("cells 5;sizes 6;heap 3 1 0 3;heap 3 2 1 2;heap 3 2 0 6;heap 3 5 2 9;crest 3 44;", "move=" + text + ";", "wave 1 1 0;");
        return b.says(0, 0, 3, 2, 1, 29, 19, 1);
    }

    private static void says() {
        due(11, "size", value("size"), 2);
        due(11, "stuff", value("stuff"), 1);
        // of 20 stones 9 are greater, 3 lesser: 16 times 9 by 20, 16 times 3 by 20
        due(11, "above", value("above"), 7);
        due(11, "below", value("below"), 2);
        due(11, "height", value("height"), 29);
        due(11, "beat", value("beat"), 19);
        due(11, "from", value("from"), 1);
        due(11, "crest", value("crest"), 44);
        due(11, "cell", value("cell"), 3);
        ShingleBank b = on("cells 2;sizes 4;heap 1 0 0 9;heap 1 1 2 7;heap 1 2 0 1;", "move=below;wear=above;", "wave 1 1 0;");
        due(11, "below: 16 of 17, of all STUFF", b.says(0, 0, 1, 2, 0, 1, 1, 0), 15);
        due(11, "below: all", b.says(0, 0, 1, 3, 0, 1, 1, 0), 16);
        due(11, "above: 8 of 17", b.says(0, 1, 1, 0, 0, 1, 1, 0), 7);
        due(11, "from the left", value("20-3-2+1"), 16);
        due(11, "* ahead of +", value("2+3*4"), 14);
        due(11, "( )", value("(2+3)*4"), 20);
        due(11, "/ cuts", value("17/2/2*3"), 12);
        due(11, "/ cuts towards 0", value("(0-7)/2"), -3);
        due(11, "/ by 0", value("7/(3-3)"), 0);
        due(11, "it wraps", value("9999*9999*9999"), 9999 * 9999 * 9999);
        due(11, "the least by -1", value("(0-2*1024*1024*1024)/(0-1)"), MIN);
        due(11, "the least less 1", value("0-2*1024*1024*1024-1"), MAX);
        due(11, "not held", value("100"), 100);
        due(11, "not held", value("0-100"), -100);
        due(11, "if <", value("if 1<2 then 3 else 4"), 3);
        due(11, "if < alike", value("if 2<2 then 3 else 4"), 4);
        due(11, "if >", value("if 1>2 then 3 else 4"), 4);
        due(11, "if > more", value("if 2>1 then 3 else 4"), 3);
        due(11, "if > alike", value("if 2>2 then 3 else 4"), 4);
        due(11, "if =", value("if 2=2 then 3 else 4"), 3);
        due(11, "if = not", value("if 2=1 then 3 else 4"), 4);
        due(11, "with signs", value("if 0-1<0 then 3 else 4"), 3);
        due(11, "or", value("if 1=2 or 2=2 or 1=2 then 3 else 4"), 3);
        due(11, "and", value("if 1=1 and 2=1 and 1=1 then 3 else 4"), 4);
        due(11, "and ahead of or", value("if 1=1 or 1=1 and 1=2 then 3 else 4"), 3);
        due(11, "[ ]", value("if [1=1 or 1=1] and 1=2 then 3 else 4"), 4);
        due(11, "not", value("if not 1=1 then 3 else 4"), 4);
        due(11, "not of the B alone", value("if not 1=2 or 1=1 then 3 else 4"), 3);
        due(11, "not not", value("if not not 1=1 then 3 else 4"), 3);
        due(11, "not [ ]", value("if not [1=2 or 1=1] then 3 else 4"), 4);
        due(11, "else takes all", value("if 1=1 then 3 else 4+5"), 3);
        due(11, "else takes all", value("if 1=2 then 3 else 4+5"), 9);
        due(11, "else if", value("if 1=2 then 3 else if 1=1 then 5 else 6"), 5);
        due(11, "then if", value("if 1=1 then if 1=2 then 3 else 4 else 5"), 4);
        due(11, "( if )", value("1+(if 1=1 then 3 else 4)*2"), 7);
    }

    private static void saysWhole() {
        ShingleBank b = on("cells 2;sizes 3;heap 0 0 0 1;heap 0 2 0 1;", "wear=above*1000+below;over=size+stuff+above+below+crest*100+cell*9000+beat;", "wave 1 1 0;");
        due(11, "what is not told is 0", b.says(0, 0, 0, 1, 0, 1, 1, 0), 0);
        due(11, "wear", b.says(0, 1, 0, 1, 0, 1, 1, 0), 8008);
        due(11, "wear of the least", b.says(0, 1, 0, 0, 0, 1, 1, 0), 8000);
        due(11, "wear of the greatest", b.says(0, 1, 0, 2, 0, 1, 1, 0), 8);
        due(11, "a CELL without stones", b.says(0, 1, 1, 1, 0, 1, 1, 0), 0);
        due(11, "over: size, stuff, above, below 0", b.says(0, 2, 1, 1, 2, 1, 7, 0), 11007);
        b.put(1, 2, 1, 9);
        due(11, "as it is", b.says(0, 1, 1, 1, 0, 1, 1, 0), 16000);
        refused(11, "CELL", OUTSIDE, () -> b.says(9, 9, 2, 9, 9, 0, 0, 9));
        refused(11, "LAW", MISSING, () -> b.says(1, 9, 0, 9, 9, 0, 0, 9));
        refused(11, "LAW", MISSING, () -> b.says(-1, 0, 0, 0, 0, 1, 1, 0));
        refused(11, "what", WRONG, () -> b.says(0, 3, 0, 0, 0, 1, 1, 0));
        refused(11, "what", WRONG, () -> b.says(0, -1, 0, 0, 0, 1, 1, 0));
        refused(11, "SIZE", WRONG, () -> b.says(0, 0, 0, 3, 0, 1, 1, 0));
        refused(11, "STUFF", WRONG, () -> b.says(0, 0, 0, 0, 3, 1, 1, 0));
        refused(11, "SIZE for over", WRONG, () -> b.says(0, 2, 0, 3, 0, 1, 1, 0));
        refused(11, "height", WRONG, () -> b.says(0, 0, 0, 0, 0, 0, 1, 0));
        refused(11, "height", WRONG, () -> b.says(0, 0, 0, 0, 0, 31, 1, 0));
        refused(11, "beat", WRONG, () -> b.says(0, 0, 0, 0, 0, 1, 0, 0));
        refused(11, "beat", WRONG, () -> b.says(0, 0, 0, 0, 0, 1, 21, 0));
        refused(11, "from", WRONG, () -> b.says(0, 0, 0, 0, 0, 1, 1, 2));
        refused(11, "from", WRONG, () -> b.says(0, 0, 0, 0, 0, 1, 1, -1));
    }

    private static void wave() {
        ShingleBank b = on("cells 3;sizes 2;heap 0 0 0 32;heap 0 1 0 16;heap 1 1 1 48;crest 0 5;wall 0 8;", "move=if size=1 then 8 else 4;wear=2;over=height-beat;", "wave 1 1 0;");
        due(12, "MOVED: 8, 8 and 24", b.wave(0, 10, 3, 0), 40);
        // 32 less 8, of 7 not worn 3 stay by the wall, of 27 a 16th is gone
        due(12, "CELL 0", b.stones(0, 0, 0), 26);
        due(12, "CELL 0, half of 7 stay", b.stones(0, 1, 0), 11);
        due(12, "CELL 1, one worn and 4", b.stones(1, 0, 0), 5);
        due(12, "CELL 1", b.stones(1, 1, 0), 4);
        due(12, "CELL 2, 3 worn", b.stones(2, 0, 1), 3);
        due(12, "CELL 2", b.stones(2, 1, 1), 21);
        due(12, "SAND", b.sums(2), 1);
        due(12, "the HOUR", b.told(6), 1);
        ShingleBank c = on("cells 3;sizes 2;heap 1 1 2 100;heap 2 0 0 16;wall 0 3;wall 1 5;", "move=beat;wear=height;", "wave 1 1 0;");
        due(12, "to the one ahead, held to 16", c.wave(0, 7, 20, 1), 116);
        // of 100 43 worn, 57 not; of these 8 and 10 stay behind the wall ahead; of 16 7 are SAND, of 9 2 stay
        due(12, "worn ones that the wall kept, and those from behind", c.stones(1, 0, 2), 8);
        due(12, "others that the wall kept", c.stones(1, 1, 2), 10);
        due(12, "worn ones beyond", c.stones(0, 0, 2), 35);
        due(12, "others beyond", c.stones(0, 1, 2), 47);
        due(12, "SAND", c.sums(2), 7);
        due(12, "from the last one", c.stones(1, 0, 0), 7);
        due(12, "kept in the last one", c.stones(2, 0, 0), 2);
        ShingleBank single = on("cells 2;sizes 2;heap 0 0 0 1;heap 0 1 2 17;heap 0 1 1 16;heap 0 1 0 16;", "move=if size=0 then 16 else stuff;", "wave 1 1 0;");
        due(12, "a single stone, and by STUFF 0, 1, 2", single.wave(0, 1, 1, 0), 1 + 1 + 2);
        due(12, "a single stone", single.stones(1, 0, 0), 1);
        due(12, "one of STUFF 1", single.stones(1, 1, 1), 1);
        due(12, "two of STUFF 2", single.stones(1, 1, 2), 2);
        ShingleBank none = on("heap 0 0 0 99;", "move=0-5;wear=99;", "wave 1 1 0;");
        due(12, "held to 0", none.wave(0, 1, 1, 0), 0);
        due(12, "nothing moved", none.stones(0, 0, 0), 99);
        refused(12, "LAW", MISSING, () -> b.wave(1, 0, 0, 9));
        refused(12, "height", WRONG, () -> b.wave(0, 0, 1, 0));
        refused(12, "height", WRONG, () -> b.wave(0, 31, 1, 0));
        refused(12, "beat", WRONG, () -> b.wave(0, 1, 0, 0));
        refused(12, "beat", WRONG, () -> b.wave(0, 1, 21, 0));
        refused(12, "from", WRONG, () -> b.wave(0, 1, 1, 2));
        refused(12, "from", WRONG, () -> b.wave(0, 1, 1, -1));
        due(12, "no HOUR by these", b.told(6), 1);
        ShingleBank empty = new ShingleBank();
        empty.law(0);
        refused(12, "no BEACH", BARRED, () -> empty.wave(0, 1, 1, 0));
        refused(12, "no BEACH, behind height", WRONG, () -> empty.wave(0, 31, 1, 0));
    }

    private static void waveAtEnds() {
        ShingleBank b = on("cells 2;sizes 3;heap 1 2 0 20;heap 0 1 0 20;wall 0 16;", "move=8;wear=8;", "wave 1 1 0;");
        due(12, "MOVED, though none has anywhere to go", b.wave(0, 1, 1, 0), 20);
        due(12, "they stay, worn", b.stones(1, 1, 0), 5);
        due(12, "and not worn", b.stones(1, 2, 0), 15);
        due(12, "all caught by a wall of 16", b.stones(0, 1, 0), 15);
        due(12, "all caught by a wall of 16, worn ones too", b.stones(0, 0, 0), 5);
        ShingleBank all = on("cells 2;heap 0 0 0 16;heap 0 1 0 16;heap 1 1 0 32;", "move=16;wear=if size=0 then 16 else 0;", "wave 1 1 0;");
        due(12, "as they are ahead of it: none is carried twice", all.wave(0, 1, 1, 1), 64);
        due(12, "by from 1", all.stones(0, 1, 0), 48);
        due(12, "none left", all.stones(1, -1, -1), 0);
        due(12, "SIZE 0 is SAND", all.sums(2), 16);
        ShingleBank mix = on("cells 2;sizes 2;heap 0 0 0 8;heap 0 1 0 8;heap 1 1 0 9;", "move=above;", "wave 1 1 0;");
        due(12, "above as it is ahead of it", mix.wave(0, 1, 1, 1), 4);
    }

    private static void waveOver() {
        ShingleBank b = on("cells 2;heap 0 0 0 33;heap 0 3 2 15;heap 1 1 1 160;crest 0 2;crest 1 3;", "over=beat+cell;", "wave 1 1 0;");
        b.wave(0, 1, 2, 0);
        due(12, "no more than the crest: no OVER", b.cell(0, 2), 0);
        due(12, "no OVER", b.cell(1, 2), 0);
        b.wave(0, 1, 3, 0);
        due(12, "the crest is one less", b.cell(0, 0), 1);
        due(12, "OVER", b.cell(0, 2), 1);
        due(12, "a 16th", b.stones(0, 0, 0), 31);
        due(12, "a 16th of 15 is none", b.stones(0, 3, 2), 15);
        due(12, "a 16th", b.stones(1, 1, 1), 150);
        due(12, "BEHIND", b.sums(3), 12);
        b.wave(0, 1, 20, 0);
        due(12, "not below 1", b.cell(0, 0), 1);
        due(12, "but an OVER", b.cell(0, 2), 2);
        due(12, "BEHIND", b.sums(3), 12 + 1 + 9);
        ShingleBank apart = on("cells 3;heap 0 3 2 99;heap 1 0 0 99;heap 2 0 0 99;crest 1 1;", "move=1;over=if size+stuff+above+below=0 then 2 else 30;", "wave 1 1 0;");
        apart.wave(0, 1, 1, 1);
        due(12, "only the CELL that it goes over", apart.stones(2, 0, 0), 93);
        due(12, "only the CELL that it goes over", apart.stones(0, 3, 2), 99);
        due(12, "99 less 6, and 6 of the next one, less 6", apart.stones(1, 0, 0), 93);
        due(12, "size, stuff, above, below are 0 for over", apart.cell(2, 2) + apart.cell(0, 2), 0);
        ShingleBank moved = on("cells 2;heap 0 0 0 32;crest 1 1;", "move=16;over=2;", "wave 1 1 0;");
        moved.wave(0, 1, 1, 0);
        due(12, "behind what was moved", moved.stones(1, 0, 0), 30);
        due(12, "crest of 20 holds", moved.cell(0, 2), 0);
    }

    private static void waveSpringsAndLorries() {
        ShingleBank b = on("cells 2;sizes 2;heap 0 1 0 5;heap 0 1 2 5;heap 0 0 0 5;lorry 0 2 7 2;lorry 1 0 2 3;spring 1 0 1 3;spring 1 0 1 1;spring 0 0 2 1;", "", "wave 1 1 0;");
        due(12, "none moved", b.wave(0, 1, 1, 0), 0);
        due(12, "springs", b.stones(1, 0, 1), 4);
        due(12, "come", b.sums(1), 5);
        due(12, "no lorry in the first HOUR", b.sums(4), 0);
        b.wave(0, 1, 1, 1);
        due(12, "sold in the second", b.sums(4), 7);
        due(12, "from the greatest SIZE on", b.stones(0, 1, 0), 0);
        due(12, "by STUFF", b.stones(0, 1, 2), 3);
        due(12, "the lesser stay", b.stones(0, 0, 0), 5);
        b.wave(0, 1, 1, 1);
        due(12, "from CELL to CELL in the third, what the springs just brought too", b.stones(1, 0, 1), 10);
        due(12, "there", b.stones(0, 0, 1), 2);
        due(12, "all 8 and 5 are there", b.stones(0, -1, -1), 3 + 5 + 3 + 2);
        b.wave(0, 1, 1, 1);
        due(12, "the fourth", b.sums(4), 14);
        due(12, "3 of SIZE 1, 4 of STUFF 0", b.stones(0, 0, 0), 1);
        ShingleBank few = on("cells 2;sizes 2;heap 0 1 0 3;lorry 0 1 999 1;lorry 1 2 2 1;spring 0 0 0 1;", "", "wave 1 1 0;");
        few.wave(0, 1, 1, 0);
        due(12, "as many as there are", few.stones(0, -1, -1), 0);
        due(12, "and the next lorry takes of these", few.stones(1, -1, -1), 2);
        due(12, "the greater ones", few.stones(1, 1, 0), 1);
    }

    private static void run() {
        ShingleBank b = on("cells 4;heap 0 0 0 16;", "move=16;", "wave 1 1 0 times 3;wave 1 1 1;");
        due(13, "HOURS", b.run(0, 0), 4);
        due(13, "in their order", b.stones(2, 0, 0), 16);
        due(13, "HOURS all", b.told(6), 4);
        due(13, "another YEAR", Texts.year(b, many("wave 1 1 0 times 9;", 20)), 1);
        due(13, "180", b.run(0, 1), 180);
        due(13, "360", b.run(0, 1), 180);
        due(13, "540", b.run(0, 1), 180);
        due(13, "up to 600", b.run(0, 1), 56);
        due(13, "HOURS", b.told(6), 600);
        refused(13, "HOURS are 600", BARRED, () -> b.run(0, 0));
        refused(13, "LAW", MISSING, () -> b.run(1, 0));
        refused(13, "LAW", MISSING, () -> b.run(-1, 0));
        refused(13, "YEAR", MISSING, () -> b.run(0, 2));
        refused(13, "YEAR", MISSING, () -> b.run(0, -1));
        refused(12, "HOURS are 600", BARRED, () -> b.wave(0, 1, 1, 0));
        ShingleBank none = new ShingleBank();
        none.law(0);
        Texts.year(none, "wave 1 1 0;");
        refused(13, "no BEACH", BARRED, () -> none.run(0, 0));
    }

    private static void lots() {
        ShingleBank b = on("cells 12;heap 5 0 0 1000;", "move=height;", "wave 1 1 0 times 9;wave 4 1 1;wave 16 1 0;");
        int seed = -123456789;
        ShingleBank byHand = on("cells 12;heap 5 0 0 1000;", "move=height;", "wave 1 1 0;");
        int[][] waves = {{1, 0}, {4, 1}, {16, 0}};
        for (int i = 0; i < 20; i++) {
            seed = seed * 1103515245 + 12345;
            int[] w = waves[((seed >> 16) & 0x7fff) % 3];
            byHand.wave(0, w[0], 1, w[1]);
        }
        due(14, "20 HOURS", b.lots(0, 0, 20, -123456789), 20);
        due(14, "HOURS", b.told(6), 20);
        for (int c = 0; c < 12; c++) {
            due(14, "CELL " + c, b.stones(c, 0, 0), byHand.stones(c, 0, 0));
        }
        due(14, "200", b.lots(0, 0, 200, 1), 200);
        due(14, "200", b.lots(0, 0, 200, 1), 200);
        due(14, "up to 600", b.lots(0, 0, 200, 1), 180);
        refused(14, "HOURS are 600", BARRED, () -> b.lots(0, 0, 1, 1));
        refused(14, "n ahead of HOURS", WRONG, () -> b.lots(0, 0, 0, 1));
        refused(14, "n", WRONG, () -> b.lots(0, 0, 201, 1));
        refused(14, "LAW", MISSING, () -> b.lots(1, 0, 0, 1));
        refused(14, "YEAR", MISSING, () -> b.lots(0, 1, 0, 1));
        ShingleBank none = new ShingleBank();
        none.law(0);
        Texts.year(none, "wave 1 1 0;");
        refused(14, "no BEACH", BARRED, () -> none.lots(0, 0, 1, 1));
    }

    private static void mean() {
        ShingleBank b = on("cells 3;sizes 6;heap 0 5 0 9999;heap 0 5 1 9999;heap 0 5 2 9999;heap 1 0 0 1;heap 1 1 1 1;heap 1 3 2 1;");
        due(15, "many great ones", b.mean(0), 5000);
        due(15, "cut", b.mean(1), 1333);
        due(15, "without stones", b.mean(2), -1);
        refused(15, "CELL", OUTSIDE, () -> b.mean(3));
        refused(15, "CELL", OUTSIDE, () -> b.mean(-1));
    }

    private static void order() {
        ShingleBank b = on("cells 5;heap 0 1 0 5;heap 1 0 0 2;heap 1 2 0 2;heap 3 0 0 9;heap 4 3 0 1;");
        // MEANS 1000, 1000, none, 0, 3000
        due(16, "IN ORDER", b.order(0), 4);
        due(16, "of how many", b.order(1), 6);
        due(16, "HORNS: CELLS 0 and 3", b.order(2), 2);
        due(16, "KNOWN: CELLS 3 and 4", b.order(3), 2);
        due(16, "KNOWN: CELL 0", on("cells 3;heap 0 2 0 5;heap 1 1 0 5;heap 2 1 0 5;").order(3), 1);
        due(16, "HORNS: the last but one is none", on("cells 3;heap 0 0 0 1;heap 1 0 0 2;heap 2 0 0 3;").order(2), 1);
        refused(16, "what", WRONG, () -> b.order(4));
        refused(16, "what", WRONG, () -> b.order(-1));
        ShingleBank alone = on("cells 2;heap 1 1 0 5;");
        due(16, "a CELL alone is KNOWN", alone.order(3), 1);
        due(16, "no two", alone.order(1), 0);
        due(16, "no two IN ORDER", alone.order(0), 0);
        ShingleBank near = on("cells 3;heap 0 0 0 100;heap 1 0 0 91;heap 1 1 0 9;heap 2 0 0 90;heap 2 1 0 10;");
        due(16, "MEANS 0, 90, 100: sounds 60, 60, 59", near.order(3), 1);
        due(16, "IN ORDER", near.order(0), 3);
    }

    private static void horn() {
        ShingleBank b = on("cells 5;heap 0 0 0 5;heap 1 0 0 4;heap 2 0 0 6;heap 3 0 0 1;heap 4 0 0 2;");
        due(17, "the first one", b.horn(0), 0);
        due(17, "the second one", b.horn(1), 2);
        due(17, "the third one", b.horn(2), 4);
        due(17, "not so many", b.horn(3), -1);
        due(17, "below 0", b.horn(-1), -1);
        due(17, "the least", b.horn(MIN), -1);
        due(17, "the greatest", b.horn(MAX), -1);
        b.put(1, 0, 0, 1);
        due(17, "alike is not more", b.horn(0), 2);
        due(17, "without stones", on("").horn(0), -1);
    }

    private static void sound() {
        due(18, "MEAN 1990", on("heap 0 2 0 99;heap 0 1 0 1;").sound(0), 41);
        ShingleBank b = on("cells 4;heap 0 3 0 1;heap 1 0 0 99;heap 1 1 0 1;heap 2 1 0 1;");
        due(18, "of great ones", b.sound(0), 30);
        due(18, "cut", b.sound(1), 60);
        due(18, "sound", b.sound(2), 50);
        due(18, "without stones", b.sound(3), -1);
        refused(18, "CELL", OUTSIDE, () -> b.sound(4));
        refused(18, "CELL", OUTSIDE, () -> b.sound(-1));
    }

    private static void takeAndDrop() {
        ShingleBank b = on("cells 2;sizes 2;");
        due(20, "drop of none", b.drop(), 0);
        for (int i = 1; i <= 4; i++) {
            due(19, "take", b.take(1, 2), i);
        }
        due(19, "a fifth", b.take(1, 2), -1);
        due(19, "still 4", b.count(0), 4);
        refused(19, "SIZE, with 4", WRONG, () -> b.take(2, 0));
        due(20, "drop", b.drop(), 4);
        due(20, "it is gone", b.count(0), 0);
        due(19, "take again", b.take(0, 0), 1);
        due(20, "drop again", b.drop(), 1);
        refused(19, "SIZE", WRONG, () -> b.take(2, 0));
        refused(19, "SIZE NONE", WRONG, () -> b.take(-1, 0));
        refused(19, "STUFF", WRONG, () -> b.take(0, 3));
        refused(19, "STUFF NONE", WRONG, () -> b.take(0, -1));
        due(19, "none was taken then", b.count(0), 0);
    }

    private static void wordAndOdds() {
        ShingleBank b = on("cells 4;heap 0 1 1 1;heap 0 0 0 2;heap 1 1 1 9000;heap 3 0 0 5;heap 3 1 1 5;");
        due(21, "1 without a HANDFUL", b.word(2), 1);
        due(22, "without a HANDFUL", b.odds(2), 250);
        b.take(1, 1);
        due(21, "cut", b.word(0), 333);
        due(21, "all", b.word(1), 1000);
        due(21, "without stones", b.word(2), 0);
        due(22, "of 1,000: 333 by 1833, cut", b.odds(0), 181);
        due(22, "without stones", b.odds(2), 0);
        b.take(0, 0);
        due(21, "the SHARES multiplied", b.word(0), 333 * 666);
        due(21, "one is not there", b.word(1), 0);
        b.take(1, 1);
        b.take(1, 1);
        due(21, "four", b.word(3), 500L * 500 * 500 * 500);
        b.drop();
        for (int i = 0; i < 4; i++) {
            b.take(1, 1);
        }
        due(21, "the greatest", b.word(1), 1000000000000L);
        due(22, "ODDS of it", b.odds(1), 930);
        b.drop();
        b.take(3, 0);
        due(22, "0, if all WORDS are 0", b.odds(0), 0);
        refused(21, "CELL", OUTSIDE, () -> b.word(4));
        refused(21, "CELL", OUTSIDE, () -> b.word(-1));
        refused(22, "CELL", OUTSIDE, () -> b.odds(4));
        refused(22, "CELL", OUTSIDE, () -> b.odds(-1));
    }

    private static void where() {
        ShingleBank b = on("cells 4;heap 0 1 0 10;heap 2 1 0 7;heap 2 0 0 3;heap 3 1 0 10;");
        due(23, "GUESS without a HANDFUL", b.where(0), 0);
        due(23, "NEAR without a HANDFUL: 6, 4, 4, 6", b.where(1), 1);
        due(23, "how far", b.where(2), 1000);
        b.take(1, 0);
        // WORDS 1000, 0, 700, 1000: far 4400, 3700, 3000, 3700
        due(23, "GUESS: the first of alike ones", b.where(0), 0);
        due(23, "NEAR", b.where(1), 2);
        due(23, "how far: 3000 by 2700", b.where(2), 1111);
        b.drop();
        b.take(2, 0);
        for (int what = 0; what <= 2; what++) {
            due(23, "all WORDS are 0: " + what, b.where(what), -1);
        }
        ShingleBank tiny = on("cells 2;heap 1 0 0 1;heap 1 0 1 999;");
        tiny.take(0, 0);
        due(23, "the least WORD there is", tiny.where(0), 1);
        due(23, "the least WORD there is", tiny.where(1), 1);
        due(23, "the least WORD there is", tiny.where(2), 0);
        refused(23, "what", WRONG, () -> b.where(3));
        refused(23, "what", WRONG, () -> b.where(-1));
    }

    private static void found() {
        ShingleBank b = on("cells 3;sizes 2;heap 0 1 2 15;heap 1 1 2 17;heap 2 1 2 40;heap 2 1 1 500;heap 2 0 2 500;");
        due(24, "each CELL cut", b.found(1, 1), 3);
        due(24, "half", b.found(1, 8), 7 + 8 + 20);
        due(24, "all", b.found(1, 16), 72);
        refused(24, "SIZE", WRONG, () -> b.found(2, 1));
        refused(24, "SIZE", WRONG, () -> b.found(-1, 1));
        refused(24, "s", WRONG, () -> b.found(0, 0));
        refused(24, "s", WRONG, () -> b.found(0, 17));
    }

    private static void miles() {
        ShingleBank b = on("cells 3;sizes 3;heap 0 1 2 1;heap 1 1 2 1;heap 2 1 2 1;heap 2 1 0 99;heap 2 2 2 5;heap 0 0 1 4;");
        due(25, "MILES", b.miles(1), 1000);
        b.put(2, 1, 2, 3);
        due(25, "MILES", b.miles(1), 1500);
        b.put(0, 1, 2, 1);
        due(25, "cut: 9 by 7", b.miles(1), 1285);
        due(25, "of the last one", b.miles(2), 2000);
        due(25, "none PAINTED", b.miles(0), -1);
        refused(25, "SIZE", WRONG, () -> b.miles(3));
        refused(25, "SIZE", WRONG, () -> b.miles(-1));
    }

    private static void lost() {
        ShingleBank b = on("cells 2;heap 0 0 2 40;heap 0 0 2 32;heap 0 0 1 32;spring 1 1 2 4;spring 1 1 1 4;lorry 1 2 3 2;crest 0 1;", "move=8;wear=4;over=if cell=0 then 9 else 0;", "wave 1 1 0;");
        due(26, "none at first", b.lost(), 0);
        b.put(1, 0, 2, 10);
        due(26, "none by put", b.lost(), 0);
        b.wave(0, 1, 1, 0);
        // of 16 4 are SAND, of 10 5 moved and 1 is SAND; of 16 that stay 1 is BEHIND; 4 come
        due(26, "SAND, BEHIND", b.lost(), 4 + 1 + 1);
        b.wave(0, 1, 1, 0);
        due(26, "and sold", b.lost() > 6 ? 1 : 0, 1);
        due(26, "as told, put, come less those that are", b.lost(), 32 + 10 + 8 - b.stones(-1, -1, 2));
    }

    private static void look() {
        ShingleBank b = on("cells 4;sizes 2;heap 0 1 0 3;heap 1 1 0 2;heap 1 1 2 3;heap 3 1 1 3;heap 2 0 0 99;");
        due(27, "the richest", b.look(1, 1, 0), 2);
        due(27, "5 of 11", b.look(1, 1, 1), 454);
        due(27, "of alike ones the first", b.look(1, 2, 0), 3);
        due(27, "8 of 11", b.look(1, 2, 1), 727);
        due(27, "three", b.look(1, 3, 0), 11);
        due(27, "three", b.look(1, 3, 1), 1000);
        due(27, "all", b.look(1, 4, 0), 15);
        due(27, "the other SIZE", b.look(0, 1, 0), 4);
        ShingleBank none = on("cells 3;");
        due(27, "without any: the first ones", none.look(0, 2, 0), 3);
        due(27, "0 without any", none.look(0, 2, 1), 0);
        refused(27, "SIZE", WRONG, () -> b.look(2, 1, 0));
        refused(27, "SIZE", WRONG, () -> b.look(-1, 1, 0));
        refused(27, "n", WRONG, () -> b.look(0, 0, 0));
        refused(27, "n", WRONG, () -> b.look(0, 5, 0));
        refused(27, "what", WRONG, () -> b.look(0, 1, 2));
        refused(27, "what", WRONG, () -> b.look(0, 1, -1));
    }

    /** What is asked of a YEAR to come is refused without one, without a LAW, without a BEACH, behind 600 HOURS. */
    private interface Asking {
        long of(ShingleBank b, int law, int year);
    }

    private static void refusedAsking(int promise, Class<?> withoutBeach, Asking asking) {
        ShingleBank b = on("cells 3;", "", many("wave 1 1 0 times 9;", 20));
        refused(promise, "LAW", MISSING, () -> asking.of(b, 1, 0));
        refused(promise, "LAW", MISSING, () -> asking.of(b, -1, 0));
        refused(promise, "YEAR", MISSING, () -> asking.of(b, 0, 1));
        refused(promise, "YEAR", MISSING, () -> asking.of(b, 0, -1));
        for (int i = 0; i < 4; i++) {
            asking.of(b, 0, 0);
            b.run(0, 0);
        }
        refused(promise, "HOURS are 600", BARRED, () -> asking.of(b, 0, 0));
        ShingleBank none = new ShingleBank();
        none.law(0);
        Texts.year(none, "wave 1 1 0;");
        refused(promise, "no BEACH", withoutBeach, () -> asking.of(none, 0, 0));
    }

    private static void left() {
        ShingleBank b = on("cells 3;sizes 3;heap 0 2 0 16;heap 0 2 1 16;spring 0 1 0 2;lorry 2 3 1 2;", "move=16;wear=if cell=0 then 8 else 0;", "wave 1 1 0 times 2;");
        due(28, "LEFT, all STUFF, 1 sold", b.left(0, 0, 2, 2), 15);
        due(28, "worn ones, and one of a spring", b.left(0, 0, 1, 1), 1);
        due(28, "worn ones", b.left(0, 0, 2, 1), 16);
        due(28, "of a spring", b.left(0, 0, 0, 1), 2);
        due(28, "nothing stays changed", b.stones(0, 2, -1), 32);
        due(28, "nothing stays changed", b.told(6), 0);
        due(28, "nothing stays changed", b.sums(1) + b.sums(4), 0);
        refused(28, "CELL", OUTSIDE, () -> b.left(9, 9, 3, 9));
        refused(28, "CELL", OUTSIDE, () -> b.left(0, 0, -1, 0));
        refused(28, "SIZE", WRONG, () -> b.left(0, 0, 0, 3));
        refused(28, "SIZE NONE", WRONG, () -> b.left(0, 0, 0, -1));
        refusedAsking(28, OUTSIDE, (x, l, y) -> x.left(l, y, 0, 0));
        ShingleBank late = on("cells 2;spring 0 0 0 1;", "", many("wave 1 1 0 times 9;", 20));
        late.run(0, 0);
        late.run(0, 0);
        late.run(0, 0);
        due(28, "it ends at 600 HOURS", late.left(0, 0, 0, 0), 600);
    }

    private static void sample() {
        ShingleBank b = on("cells 2;sizes 2;");
        due(29, "NONE at first", b.sample(1, 1, 0), -1);
        due(29, "what it was", b.sample(1, 1, 999999), 0);
        due(29, "another one", b.sample(0, 1, 5), -1);
        due(29, "told ones", b.count(3), 2);
        due(29, "no more told", b.sample(1, 1, -1), 999999);
        due(29, "told ones", b.count(3), 1);
        due(29, "NONE again", b.sample(1, 1, -1), -1);
        refused(29, "CELL", OUTSIDE, () -> b.sample(2, 9, -9));
        refused(29, "CELL", OUTSIDE, () -> b.sample(-1, 0, 0));
        refused(29, "SIZE", WRONG, () -> b.sample(0, 2, 0));
        refused(29, "SIZE", WRONG, () -> b.sample(0, -1, 0));
        refused(29, "n", WRONG, () -> b.sample(0, 0, -2));
        refused(29, "n", WRONG, () -> b.sample(0, 0, 1000000));
        due(29, "it stays", b.sample(0, 1, 5), 5);
    }

    private static void which() {
        ShingleBank b = new ShingleBank();
        Texts.beach(b, "cells 2;sizes 2;heap 0 0 0 32;heap 0 1 1 5;");
        Texts.year(b, "wave 1 1 0 times 1;");
        due(30, "NONE without LAWS", b.which(0, 0), -1);
        due(30, "NONE without LAWS", b.which(0, 1), -1);
        Texts.law(b, "move=4;");
        Texts.law(b, "move=if size=0 then 8 else 0;");
        Texts.law(b, "move=12;");
        Texts.law(b, "move=if size=0 then 8 else 0;over=0;");
        due(30, "nothing told: the first", b.which(0, 0), 0);
        due(30, "nothing told: 0 apart", b.which(0, 1), 0);
        b.sample(0, 0, 17);
        b.sample(1, 0, 14);
        due(30, "of alike ones the first", b.which(0, 0), 1);
        due(30, "1 and 2 apart", b.which(0, 1), 3);
        b.sample(0, 1, 999999);
        due(30, "far apart: alike, but for 4 of 16 of 5 and 12 of 16", b.which(0, 1), 3 + 999994);
        b.sample(0, 1, 2);
        b.sample(0, 0, 8);
        b.sample(1, 0, 24);
        due(30, "the third", b.which(0, 0), 2);
        due(30, "that has exactly that", b.which(0, 1), 0);
        due(30, "nothing stays changed", b.told(6), 0);
        refused(30, "YEAR", MISSING, () -> b.which(1, 9));
        refused(30, "YEAR", MISSING, () -> b.which(-1, 0));
        refused(30, "what", WRONG, () -> b.which(0, 2));
        refused(30, "what", WRONG, () -> b.which(0, -1));
        ShingleBank none = new ShingleBank();
        Texts.year(none, "wave 1 1 0;");
        refused(30, "no BEACH", BARRED, () -> none.which(0, 0));
        ShingleBank late = on("", "", many("wave 1 1 0 times 9;", 20));
        for (int i = 0; i < 4; i++) {
            late.run(0, 0);
        }
        refused(30, "HOURS are 600", BARRED, () -> late.which(0, 0));
    }

    private static void cost() {
        ShingleBank b = on("cells 3;heap 0 0 0 160;heap 2 0 0 16;wall 0 4;", "move=8;", "wave 1 1 0;");
        due(31, "as many fewer: of 80 60 come, by a wall of 8 40", b.cost(0, 0, 0, 8, 1), 20);
        due(31, "less than 0: none instead", b.cost(0, 0, 0, 0, 1), -20);
        due(31, "its own CELL has more", b.cost(0, 0, 0, 16, 0), -60);
        due(31, "as it is", b.cost(0, 0, 0, 4, 1), 0);
        due(31, "another wall", b.cost(0, 0, 1, 16, 2), 0);
        due(31, "nothing stays changed", b.cell(0, 1), 4);
        due(31, "nor the stones", b.stones(0, -1, -1), 160);
        refused(31, "CELL", OUTSIDE, () -> b.cost(9, 9, 0, 99, 3));
        refused(31, "CELL", OUTSIDE, () -> b.cost(0, 0, 0, 1, -1));
        refused(31, "the last wall", OUTSIDE, () -> b.cost(0, 0, 2, 1, 0));
        refused(31, "wall", OUTSIDE, () -> b.cost(0, 0, 3, 1, 0));
        refused(31, "wall", OUTSIDE, () -> b.cost(0, 0, -1, 1, 0));
        refused(31, "P", WRONG, () -> b.cost(0, 0, 0, 17, 0));
        refused(31, "P", WRONG, () -> b.cost(0, 0, 0, -1, 0));
        refusedAsking(31, OUTSIDE, (x, l, y) -> x.cost(l, y, 0, 1, 0));
    }

    private static void raised() {
        ShingleBank b = on("cells 3;crest 0 5;crest 1 8;crest 2 3;", "over=height;", "wave 10 1 0 times 2;wave 4 1 0;");
        // OVERS: 2 of CELL 0 (crest 5, 4, 3) and one of 4 over 3, 2 of CELL 1 (8, 7, 6), 3 of CELL 2
        due(32, "one CELL, 2 higher: CELL 1", b.raised(0, 0, 1, 2, 0), 2);
        due(32, "OVERS then", b.raised(0, 0, 1, 2, 1), 6);
        due(32, "7 higher: the first of those that leave the fewest", b.raised(0, 0, 1, 7, 0), 1);
        due(32, "OVERS then", b.raised(0, 0, 1, 7, 1), 5);
        due(32, "two of them", b.raised(0, 0, 2, 7, 0), 5);
        due(32, "OVERS then", b.raised(0, 0, 2, 7, 1), 2);
        due(32, "all", b.raised(0, 0, 3, 20, 0), 7);
        due(32, "OVERS then", b.raised(0, 0, 3, 20, 1), 0);
        due(32, "2 higher once more", b.raised(0, 0, 1, 2, 0), 2);
        due(32, "OVERS once more", b.raised(0, 0, 1, 2, 1), 6);
        b.wave(0, 30, 1, 0);
        due(32, "those of the YEAR alone", b.raised(0, 0, 3, 20, 1), 0);
        due(32, "nothing stays changed", b.cell(0, 0), 4);
        due(32, "nothing stays changed", b.cell(0, 2), 1);
        refused(32, "k", WRONG, () -> b.raised(0, 0, 0, 1, 0));
        refused(32, "k", WRONG, () -> b.raised(0, 0, 4, 1, 0));
        refused(32, "m", WRONG, () -> b.raised(0, 0, 1, 0, 0));
        refused(32, "m", WRONG, () -> b.raised(0, 0, 1, 21, 0));
        refused(32, "what", WRONG, () -> b.raised(0, 0, 1, 1, 2));
        refused(32, "what", WRONG, () -> b.raised(0, 0, 1, 1, -1));
        refused(32, "LAW ahead of k", MISSING, () -> b.raised(1, 0, 0, 1, 0));
        ShingleBank two = on("cells 2;");
        refused(32, "k is more than CELLS", WRONG, () -> two.raised(0, 0, 3, 1, 0));
        due(32, "as many as CELLS", two.raised(0, 0, 2, 1, 0), 3);
        ShingleBank four = on("cells 4;");
        refused(32, "k is 4", WRONG, () -> four.raised(0, 0, 4, 1, 0));
        refusedAsking(32, WRONG, (x, l, y) -> x.raised(l, y, 1, 1, 0));
    }

    private static void brought() {
        ShingleBank b = on("cells 3;sizes 3;heap 0 2 0 5;heap 1 1 0 5;heap 2 0 0 5;", "", "wave 1 1 0;");
        // MEANS 2000, 1000, 0: of 3 none IN ORDER
        due(33, "from 0 to 1: the two are IN ORDER no more, 1 is ahead of none", b.brought(0, 0, 1, 1), 0);
        due(33, "none is better", b.brought(0, 0, 1, 0), -1);
        // 3 of SIZE 2 from 0: 2000 still; all five from 0 to 2: 0 is without stones, 1 has 1000, 2 has 1000
        due(33, "five", b.brought(0, 0, 5, 0), 2);
        due(33, "IN ORDER then", b.brought(0, 0, 5, 1), 1);
        due(33, "nothing stays changed", b.stones(0, 2, 0), 5);
        due(33, "nothing stays changed", b.told(6), 0);
        ShingleBank c = on("cells 12;heap 11 0 0 5;heap 10 1 0 5;heap 9 2 0 1;", "", "wave 1 1 0;");
        // all ten of 10 to 11: 9 has 2000, 11 500; of 9 to 11: 10 has 1000, 11 less; of 9 to 10: 10 more than 11;
        // of 11 to 9: 9 less than 1000, 10 1000
        due(33, "whence and whither", c.brought(0, 0, 999, 0), 1100);
        due(33, "IN ORDER then", c.brought(0, 0, 999, 1), 2);
        due(33, "the first beach once more", b.brought(0, 0, 1, 0), -1);
        due(33, "the first beach once more", b.brought(0, 0, 1, 1), 0);
        ShingleBank d = on("cells 3;heap 0 2 0 16;heap 1 0 0 16;", "move=if size=2 then 16 else 0;", "wave 1 1 0;");
        // behind the YEAR all of SIZE 2 are in CELL 1, and CELL 0 is without stones; with one brought there it is not
        due(33, "behind a YEAR: the first that leaves two CELLS", d.brought(0, 0, 1, 0), 1);
        due(33, "behind a YEAR: one of them goes on to CELL 2", d.brought(0, 0, 1, 1), 1);
        due(33, "behind a YEAR: lesser ones to CELL 0", d.brought(0, 0, 16, 1), 1);
        refused(33, "N", WRONG, () -> b.brought(0, 0, 0, 0));
        refused(33, "N", WRONG, () -> b.brought(0, 0, 1000, 0));
        refused(33, "what", WRONG, () -> b.brought(0, 0, 1, 2));
        refused(33, "what", WRONG, () -> b.brought(0, 0, 1, -1));
        refusedAsking(33, BARRED, (x, l, y) -> x.brought(l, y, 1, 0));
    }

    private static void sums() {
        ShingleBank b = on("cells 2;heap 0 0 0 32;heap 0 1 2 7;heap 1 1 1 16;spring 0 0 2 3;lorry 1 2 2 1;crest 1 4;", "move=if cell=0 and size=0 then 16 else 0;wear=4;over=5;", "wave 1 1 0;");
        b.put(0, 3, 1, 4);
        due(34, "at first and put", b.sums(0), 59);
        b.wave(0, 1, 1, 0);
        due(34, "at first and put", b.sums(0), 59);
        due(34, "come", b.sums(1), 3);
        due(34, "SAND", b.sums(2), 8);
        // 24 and 16 in CELL 1 then
        due(34, "BEHIND", b.sums(3), 2);
        due(34, "sold", b.sums(4), 2);
        due(34, "and all the others are here", b.stones(-1, -1, -1), 59 + 3 - 8 - 2 - 2);
        refused(34, "what", WRONG, () -> b.sums(5));
        refused(34, "what", WRONG, () -> b.sums(-1));
    }

    private static void last() {
        ShingleBank b = on("cells 2;heap 0 0 0 100;heap 1 2 1 20;lorry 0 2 5 2;", "", "wave 1 1 0 times 2;");
        due(35, "fewer at once", b.last(0, 0, 0, 101), 0);
        due(35, "5 a YEAR", b.last(0, 0, 0, 100), 1);
        due(35, "behind three", b.last(0, 0, 0, 90), 3);
        due(35, "behind 20 none is left", b.last(0, 0, 0, 1), 20);
        due(35, "not by 20", b.last(0, 0, 1, 20), -1);
        due(35, "fewer than 21", b.last(0, 0, 1, 21), 0);
        due(35, "the greatest n", b.last(0, 0, 1, 999999), 0);
        due(35, "nothing stays changed", b.stones(0, -1, -1), 100);
        ShingleBank c = on("cells 2;heap 0 0 0 9999;lorry 0 2 1 1;", "", many("wave 1 1 0 times 9;", 20));
        due(35, "a YEAR that HOURS cut is one", c.last(0, 0, 0, 9999 - 540), 4);
        due(35, "the last HOUR", c.last(0, 0, 0, 9999 - 599), 4);
        due(35, "not as HOURS end", c.last(0, 0, 0, 9999 - 600), -1);
        ShingleBank d = on("cells 2;heap 0 0 0 9999;lorry 0 2 1 1;", "", many("wave 1 1 0 times 6;", 20));
        due(35, "HOURS end with a YEAR", d.last(0, 0, 0, 9999 - 599), 5);
        due(35, "HOURS end with a YEAR", d.last(0, 0, 0, 9999 - 600), -1);
        ShingleBank e = on("cells 2;heap 0 0 0 21;lorry 0 2 1 1;", "", "wave 1 1 0;");
        due(35, "by 20", e.last(0, 0, 0, 2), 20);
        due(35, "by 21", e.last(0, 0, 0, 1), -1);
        refused(35, "CELL", OUTSIDE, () -> b.last(9, 9, 2, 0));
        refused(35, "CELL", OUTSIDE, () -> b.last(0, 0, -1, 1));
        refused(35, "n", WRONG, () -> b.last(0, 0, 0, 0));
        refused(35, "n", WRONG, () -> b.last(0, 0, 0, 1000000));
        refusedAsking(35, OUTSIDE, (x, l, y) -> x.last(l, y, 0, 1));
    }

    private static void like() {
        ShingleBank b = on("cells 4;sizes 6;heap 0 0 0 1;heap 0 1 1 2;heap 1 1 1 1;heap 1 1 2 1;heap 3 5 2 7;");
        due(36, "itself", b.like(0, 0), 0);
        due(36, "SHARES 333, 666 and 500, 500", b.like(0, 1), 333 + 166 + 500);
        due(36, "the other way", b.like(1, 0), 999);
        due(36, "one without stones", b.like(1, 2), 1000);
        due(36, "nothing in common", b.like(1, 3), 2000);
        refused(36, "CELL", OUTSIDE, () -> b.like(4, 0));
        refused(36, "CELL", OUTSIDE, () -> b.like(-1, 0));
        refused(36, "other", OUTSIDE, () -> b.like(0, 4));
        refused(36, "other", OUTSIDE, () -> b.like(0, -1));
    }

    private static void walls() {
        ShingleBank b = on("cells 4;heap 0 0 0 64;heap 1 0 0 64;heap 2 0 0 64;wall 2 16;", "move=8;", "wave 1 1 0 times 2;");
        // CELL 1: 64 of its own and what comes of 0, 64 less 32 and then 16
        due(37, "a wall behind it keeps what comes", b.walls(0, 0, 1, 16, 1, 0), 2);
        due(37, "stones then", b.walls(0, 0, 1, 16, 1, 1), 64 + 32 + 16);
        due(37, "two: the last one makes no difference", b.walls(0, 0, 2, 16, 1, 0), 6);
        due(37, "three", b.walls(0, 0, 3, 16, 1, 0), 7);
        due(37, "three, others", b.walls(0, 0, 3, 16, 1, 1), 64);
        due(37, "of alike ones the least: behind 2 there is one anyway", b.walls(0, 0, 1, 16, 2, 0), 4);
        due(37, "nothing stays changed", b.cell(1, 1), 0);
        due(37, "CELL 0", b.walls(0, 0, 2, 8, 0, 0), 3);
        due(37, "CELL 0, one", b.walls(0, 0, 1, 8, 0, 0), 1);
        due(37, "CELL 0 of 64: 48, then 36", b.walls(0, 0, 1, 8, 0, 1), 36);
        due(37, "CELL 0 by a wall of 1: 34, then 18", b.walls(0, 0, 1, 1, 0, 1), 18);
        ShingleBank onward = on("cells 3;heap 0 0 0 16;heap 1 0 0 16;", "move=16;", "wave 1 1 0;");
        due(37, "every wall is in its way: the least by what it keeps", onward.walls(0, 0, 1, 16, 2, 0), 1);
        due(37, "stones then", onward.walls(0, 0, 1, 16, 2, 1), 16);
        due(37, "the last one has no wall", onward.walls(0, 0, 2, 16, 2, 1), 0);
        refused(37, "CELL", OUTSIDE, () -> b.walls(9, 9, 0, 0, 4, 9));
        refused(37, "CELL", OUTSIDE, () -> b.walls(0, 0, 1, 1, -1, 0));
        due(37, "the last CELL", b.walls(0, 0, 1, 1, 3, 0) > 0 ? 1 : 0, 1);
        refused(37, "k", WRONG, () -> b.walls(0, 0, 0, 1, 0, 0));
        refused(37, "k", WRONG, () -> b.walls(0, 0, 4, 1, 0, 0));
        refused(37, "P", WRONG, () -> b.walls(0, 0, 1, 0, 0, 0));
        refused(37, "P", WRONG, () -> b.walls(0, 0, 1, 17, 0, 0));
        refused(37, "what", WRONG, () -> b.walls(0, 0, 1, 1, 0, 2));
        refused(37, "what", WRONG, () -> b.walls(0, 0, 1, 1, 0, -1));
        ShingleBank three = on("cells 3;");
        refused(37, "k is more than CELLS less 1", WRONG, () -> three.walls(0, 0, 3, 1, 0, 0));
        due(37, "of nothing the least", three.walls(0, 0, 2, 1, 0, 0), 3);
        due(37, "of nothing", three.walls(0, 0, 2, 1, 0, 1), 0);
        ShingleBank five = on("cells 5;");
        refused(37, "k is 4", WRONG, () -> five.walls(0, 0, 4, 1, 0, 0));
        refusedAsking(37, OUTSIDE, (x, l, y) -> x.walls(l, y, 1, 1, 0, 0));
    }

    private static void high() {
        ShingleBank b = on("cells 2;crest 0 5;crest 1 20;", "over=height*beat;", "wave 2 3 0;wave 5 5 0;wave 1 1 1;");
        due(38, "25 less 5", b.high(0, 0), 20);
        ShingleBank dry = on("cells 2;", "over=20;", "wave 1 1 0;");
        due(38, "0: as they are", dry.high(0, 0), 0);
        due(38, "100", on("cells 2;crest 1 9;", "over=if cell=1 then 109 else 0;", "wave 1 1 0;").high(0, 0), 100);
        due(38, "not by 100", on("cells 2;crest 1 9;", "over=if cell=1 then 110 else 0;", "wave 1 1 0;").high(0, 0), -1);
        due(38, "by the crest itself: from 40 on", on("cells 2;", "over=80-crest;", "wave 1 1 0;").high(0, 0), 20);
        due(38, "nothing stays changed", b.cell(0, 0), 5);
        b.wave(0, 30, 20, 0);
        due(38, "OVERS so far do not count", b.high(0, 0), 21);
        refusedAsking(38, BARRED, (x, l, y) -> x.high(l, y));
        ShingleBank late = on("cells 2;", "over=if beat=2 then 21 else 0;", many("wave 1 1 0 times 9;", 19) + "wave 1 2 0 times 9;");
        due(38, "a wave at its end", late.high(0, 0), 1);
        for (int i = 0; i < 3; i++) {
            late.lots(0, 0, 200 - 20 * i, 1);
        }
        due(38, "HOURS end ahead of that", late.high(0, 0), 0);
        ShingleBank edge = on("cells 2;", "over=if beat=2 then 21 else 0;", "wave 1 1 0 times 2;wave 1 2 0;");
        Texts.year(edge, "wave 1 1 0;");
        edge.lots(0, 1, 200, 1);
        edge.lots(0, 1, 200, 1);
        edge.lots(0, 1, 197, 1);
        due(38, "the last HOUR of all", edge.high(0, 0), 1);
        due(32, "the last HOUR of all", edge.raised(0, 0, 1, 1, 1), 1);
        edge.lots(0, 1, 1, 1);
        due(38, "behind the last HOUR", edge.high(0, 0), 0);
        due(32, "behind the last HOUR", edge.raised(0, 0, 1, 1, 1), 0);
    }

    private static void one() {
        ShingleBank b = on("cells 3;sizes 2;heap 0 0 1 1;heap 1 0 1 1;heap 0 1 0 9;heap 0 1 2 10;heap 2 1 0 99;");
        // SHARES in CELLS 0, 1, 2: (0, 1) 50, 1000, 0; (1, 0) 450, 0, 1000; (1, 2) 500, 0, 0
        due(39, "the stone", b.one(0), 12);
        due(39, "how far", b.one(1), 0);
        b.put(2, 1, 2, 1);
        // (1, 2): 500, 0, 10: 20 by 510; (0, 1): 50 by 1050
        due(39, "the stone, near by a little", b.one(1), 39);
        due(39, "the stone, near by a little", b.one(0), 12);
        ShingleBank alike = on("cells 2;heap 1 0 2 1;heap 1 1 0 1;heap 1 1 1 1;");
        due(39, "of alike ones the first", alike.one(0), 2);
        due(39, "of alike ones the first", alike.one(1), 0);
        alike.take(3, 0);
        due(39, "whatever the HANDFUL", alike.one(0), 2);
        due(39, "the HANDFUL stays", alike.drop(), 1);
        ShingleBank tiny = on("cells 2;heap 0 0 0 1;heap 0 1 1 9999;heap 1 1 1 1;");
        due(39, "a SHARE of 0 is no WORD", tiny.one(0), 11);
        due(39, "how far: 999 by 1999", tiny.one(1), 499);
        ShingleBank none = on("cells 2;");
        due(39, "no stone", none.one(0), -1);
        due(39, "no stone", none.one(1), -1);
        refused(39, "what", WRONG, () -> b.one(2));
        refused(39, "what", WRONG, () -> b.one(-1));
    }

    private static void seen() {
        ShingleBank b = new ShingleBank();
        due(40, "half of 10", b.seen(5, 8), 10);
        due(40, "all", b.seen(1, 16), 1);
        due(40, "all", b.seen(999, 16), 999);
        due(40, "the most", b.seen(999, 1), 15984);
        due(40, "1 with 3 of 16", b.seen(1, 3), 6);
        due(40, "3 with 3 of 16", b.seen(3, 3), 16);
        due(40, "1 with 15 of 16", b.seen(1, 15), 2);
        refused(40, "n", WRONG, () -> b.seen(0, 1));
        refused(40, "n", WRONG, () -> b.seen(1000, 1));
        refused(40, "s", WRONG, () -> b.seen(1, 0));
        refused(40, "s", WRONG, () -> b.seen(1, 17));
        refused(40, "both", WRONG, () -> b.seen(MIN, MAX));
    }

    private static void imageAndRestore() {
        ShingleBank b = on("cells 3;heap 0 0 2 64;spring 1 0 0 1;lorry 1 3 1 2;crest 0 3;wall 0 4;", "move=8;wear=4;over=9;", "wave 1 1 0;");
        b.take(0, 0);
        b.sample(0, 0, 7);
        due(42, "none", b.restore(), -1);
        due(41, "the first", b.image(), 1);
        b.wave(0, 1, 1, 0);
        b.put(1, 1, 1, 9);
        b.take(1, 1);
        b.sample(0, 0, 8);
        b.sample(1, 1, 9);
        due(41, "the second", b.image(), 2);
        b.run(0, 0);
        b.drop();
        b.take(3, 1);
        b.take(3, 1);
        b.drop();
        b.put(0, 0, 2, 30);
        due(41, "the third", b.image(), 3);
        due(41, "a fourth", b.image(), -1);
        due(41, "IMAGES", b.count(1), 3);
        Texts.law(b, "over=1;");
        Texts.year(b, "x");
        b.feed(1, 2, 3, 4, 5);
        due(42, "the third is as it is", b.restore(), 2);
        due(42, "HOURS", b.told(6), 2);
        due(42, "HANDFUL", b.count(0), 0);
        due(42, "the second", b.restore(), 1);
        due(42, "HOURS", b.told(6), 1);
        due(42, "HANDFUL", b.count(0), 2);
        due(42, "WORD", b.word(0), 0);
        due(42, "SAMPLE", b.count(3), 2);
        due(42, "OVERS", b.cell(0, 2), 1);
        due(42, "crest", b.cell(0, 0), 2);
        due(42, "stones", b.stones(1, 1, 1), 9);
        due(42, "put", b.sums(0), 73);
        due(42, "the first", b.restore(), 0);
        due(42, "HOURS", b.told(6), 0);
        due(42, "HANDFUL", b.count(0), 1);
        due(42, "WORD: that stone", b.word(0), 0);
        due(42, "and drop", b.drop(), 1);
        due(42, "SAMPLE", b.sample(0, 0, 7), 7);
        due(42, "SAMPLE", b.count(3), 1);
        due(42, "OVERS", b.cell(0, 2), 0);
        due(42, "crest", b.cell(0, 0), 3);
        due(42, "wall", b.cell(0, 1), 4);
        due(42, "stones", b.stones(0, 0, 2), 64);
        due(42, "put", b.sums(0), 64);
        due(42, "come, SAND, BEHIND, sold", b.sums(1) + b.sums(2) + b.sums(3) + b.sums(4), 0);
        due(42, "LOST", b.lost(), 0);
        due(42, "LAWS are no part of it", b.told(4), 2);
        due(42, "nor the TAPE", b.count(2), 20);
        due(42, "nor the FAULT", b.fault(), 0);
        due(42, "springs stay", b.told(2), 1);
        due(42, "none is left", b.restore(), -1);
        due(41, "one more", b.image(), 1);
        Texts.beach(b, "");
        due(41, "IMAGES are gone with the BEACH", b.restore(), -1);
    }

    private static void imageOfHand() {
        ShingleBank b = on("cells 2;heap 0 0 0 1;heap 0 1 0 2;heap 0 3 2 1;");
        b.take(0, 0);
        b.take(1, 0);
        b.image();
        b.drop();
        b.take(3, 2);
        b.take(3, 2);
        due(41, "another HANDFUL", b.word(0), 250 * 250);
        b.restore();
        due(42, "the HANDFUL of the IMAGE", b.word(0), 250 * 500);
    }

    /** As many CELLS and SIZES as may be: the last of all is asked for, and nothing beyond. */
    private static void fullSize() {
        StringBuilder beach = new StringBuilder("cells 12;sizes 6;");
        for (int c = 0; c < 12; c++) {
            beach.append("heap ").append(c).append(" 5 2 ").append(16 * (c + 1)).append(";heap ").append(c).append(" 0 0 8;");
        }
        ShingleBank b = on(beach + "lorry 11 12 1 1;wall 10 16;", "move=8;wear=8;over=21-height;", "wave 2 1 0;wave 1 1 1;");
        due(8, "all", b.stones(-1, -1, -1), 16 * 78 + 96);
        due(8, "of the last", b.stones(11, 5, 2), 192);
        due(15, "MEAN of the last", b.mean(11), 4800);
        due(16, "IN ORDER", b.order(0), 66);
        due(16, "of all two", b.order(1), 66);
        due(16, "HORNS", b.order(2), 1);
        due(16, "KNOWN: 33, 40, 42, 44, 45, 46, 46, 47, 47, 47, 47, 48", b.order(3), 6);
        due(17, "HORN", b.horn(0), 11);
        due(18, "SOUND of the last", b.sound(11), 12);
        due(24, "FOUND", b.found(5, 1), 78);
        due(25, "MILES", b.miles(5), 7333);
        due(26, "LOST", b.lost(), 0);
        due(27, "LOOKING", b.look(5, 2, 0), 3072);
        due(27, "all CELLS", b.look(5, 12, 0), 4095);
        due(27, "part", b.look(5, 2, 1), 294);
        due(36, "LIKE", b.like(0, 11), 2 * 294 - 1);
        due(39, "BY ONE", b.one(0), 0);
        due(19, "take", b.take(5, 2), 1);
        due(23, "GUESS", b.where(0), 11);
        due(23, "NEAR", b.where(1), 6);
        b.sample(11, 5, 50);
        due(44, "SAMPLE", b.count(3), 1);
        due(32, "RAISED", b.raised(0, 0, 3, 20, 0), 7);
        due(33, "BROUGHT", b.brought(0, 0, 999, 1) >= 0 ? 1 : 0, 1);
        due(37, "WALLS", Integer.bitCount(b.walls(0, 0, 3, 16, 11, 0)), 3);
        due(38, "HIGH", b.high(0, 0), 0);
        due(35, "LAST", b.last(0, 0, 11, 999), 0);
        due(31, "COST", b.cost(0, 0, 10, 16, 11), 0);
        due(30, "WHICH", b.which(0, 0), 0);
        due(12, "wave", b.wave(0, 1, 1, 0), 8 * 78 + 48);
        due(42, "restore of none", b.restore(), -1);
    }

    private static void status() {
        ShingleBank b = on("cells 2;");
        for (int i = 0; i < 4; i++) {
            due(43, "none as yet", b.status(i), 0);
        }
        refused(43, "CELL", OUTSIDE, () -> b.mean(2));
        refused(43, "LAW", MISSING, () -> b.run(2, 0));
        refused(43, "YEAR", MISSING, () -> b.run(0, 2));
        b.image();
        refused(43, "what", WRONG, () -> b.told(9));
        refused(43, "n", WRONG, () -> b.law(9));
        refused(43, "s", WRONG, () -> b.seen(1, 0));
        b.restore();
        Texts.year(b, many("wave 1 1 0 times 9;", 20));
        for (int i = 0; i < 4; i++) {
            b.run(0, 1);
        }
        for (int i = 0; i < 4; i++) {
            refused(43, "HOURS", BARRED, () -> b.high(0, 0));
            due(43, "refused " + i, b.status(i), new int[]{1, 2, 3, i + 1}[i]);
        }
        Texts.beach(b, "");
        due(43, "a BEACH does not change it", b.status(3), 4);
        Texts.beach(b, "x");
        due(43, "a FAULT is no refusal", b.status(2), 3);
        due(43, "others", b.status(4), -1);
        due(43, "others", b.status(-1), -1);
        due(43, "others", b.status(MIN), -1);
        due(43, "others", b.status(MAX), -1);
    }

    private static void count() {
        ShingleBank b = on("cells 2;");
        b.take(0, 0);
        b.take(0, 0);
        b.image();
        b.feed(0, 0, 0, 0, 0);
        b.feed(0, 0, 0, 0, 0);
        b.sample(0, 0, 0);
        b.sample(1, 3, 0);
        b.sample(1, 2, 5);
        due(44, "the HANDFUL", b.count(0), 2);
        due(44, "IMAGES", b.count(1), 1);
        due(44, "bytes of the TAPE", b.count(2), 40);
        due(44, "numbers of the SAMPLE", b.count(3), 3);
        due(44, "others", b.count(4), -1);
        due(44, "others", b.count(-1), -1);
        due(44, "others", b.count(MIN), -1);
    }

    /** As much as may ever be: no sum or product may leave its bounds. */
    private static void lifeOf512() {
        StringBuilder beach = new StringBuilder("cells 12;sizes 6;");
        beach.append(many("spring 11 5 2 999;", 8)).append(many("heap 11 5 2 9999;", 22));
        ShingleBank b = on(beach.toString(), "move=16;", "wave 30 20 0;");
        for (int i = 0; i < 400; i++) {
            b.put(11, 5, 2, 999);
        }
        b.lots(0, 0, 200, 1);
        b.lots(0, 0, 200, 1);
        due(14, "the last HOURS", b.lots(0, 0, 200, 1), 200);
        long all = 9999 + 400 * 999 + 600L * 8 * 999;
        due(8, "all stones", b.stones(11, 5, 2), all);
        due(15, "MEAN of so many", b.mean(11), 5000);
        due(25, "MILES of so many", b.miles(5), 11000);
        due(24, "FOUND of so many", b.found(5, 15), all * 15 / 16);
        due(27, "LOOKING for so many", b.look(5, 1, 1), 1000);
        due(36, "SHARES of so many", b.like(11, 0), 1000);
        due(26, "LOST of so many", b.lost(), 0);
        due(11, "what is no greater", b.says(0, 0, 11, 4, 0, 1, 1, 0), 16);
        due(34, "SUMS of so many", b.sums(0) + b.sums(1), all);
    }
}
