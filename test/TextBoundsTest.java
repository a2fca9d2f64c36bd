import java.math.BigInteger;
import java.util.ArrayList;
import java.util.List;

/** Terms, part 1: the three texts, at the ends of what may stand there and one step beyond. */
public final class TextBoundsTest extends Sentences {
    private static final int BEACH = 0;
    private static final int LAW = 1;
    private static final int YEAR = 2;
    private static final String[] CLAUSES = {"heap 0 0 0 1;", "crest 0 1;", "wall 0 1;", "spring 0 0 0 1;", "lorry 0 1 1 1;"};

    public static void main(String[] args) {
        lengths();
        clauses();
        extents();
        heaps();
        crestsAndWalls();
        springsAndLorries();
        rules();
        expressions();
        openOnes();
        years();
        numbers();
        words();
        blanks();
        faultOrder();
        endsTooEarly();
        values();
        end();
    }

    // ---- a text and what is due of it ----

    private static int tell(ShingleBank b, int which, String text) {
        return which == BEACH ? Texts.beach(b, text) : which == LAW ? Texts.law(b, text) : Texts.year(b, text);
    }

    private static ShingleBank fine(int which, String text) {
        ShingleBank b = new ShingleBank();
        due("text " + text, tell(b, which, text) >= 0 ? 1 : 0, 1);
        due("fault of " + text, b.fault(), -1);
        return b;
    }

    private static void faulty(int which, String text, int kind, int place) {
        ShingleBank b = new ShingleBank();
        due("text " + text, tell(b, which, text), kind - 10);
        due("fault of " + text, b.fault(), place);
        due("nothing is told by " + text, b.told(0) + b.told(4) + b.told(5), 0);
    }

    /** The number where # stands: its least and its greatest, one step beyond, and those that wrap into it. */
    private static void number(int which, String text, int low, int high) {
        int place = text.indexOf('#');
        for (String n : new String[]{"" + low, "" + high, "0" + low, "00000000000000000000" + high}) {
            fine(which, text.replace("#", n));
        }
        faulty(which, text.replace("#", "" + (high + 1)), 2, place);
        if (low > 0) {
            faulty(which, text.replace("#", "" + (low - 1)), 2, place);
        } else {
            faulty(which, text.replace("#", "-1"), 1, place);
        }
        for (int bits : new int[]{8, 16, 31, 32, 63, 64, 100}) {
            BigInteger beyond = BigInteger.ONE.shiftLeft(bits);
            faulty(which, text.replace("#", beyond.add(BigInteger.valueOf(high)).toString()), 2, place);
            if (bits >= 16) {
                faulty(which, text.replace("#", beyond.add(BigInteger.valueOf(low)).toString()), 2, place);
            }
        }
        faulty(which, text.replace("#", "x"), 1, place);
        faulty(which, text.replace("#", ";"), 1, place);
    }

    private static String padded(String text, int length) {
        return text + many(" ", length - text.length());
    }

    // ---- how long, how many ----

    private static void lengths() {
        sentence("THREE TEXTS of up to 600 bytes.");
        due("CELLS of a BEACH of 600 bytes", fine(BEACH, padded("cells 3;", 600)).told(0), 3);
        due("CELLS, told at the very end", fine(BEACH, many(" ", 592) + "cells 3;").told(0), 3);
        faulty(BEACH, many(" ", 599) + "x", 1, 599);
        faulty(BEACH, many(" ", 593) + "cells 3", 1, 600);
        faulty(BEACH, many(" ", 598) + "cells 3;".substring(0, 2), 1, 598);
        fine(BEACH, many("crest 0 1;", 60));
        fine(LAW, "move=1" + many("+1", 296) + " ;");
        faulty(LAW, "move=1" + many("+1", 297), 1, 600);
        faulty(LAW, "move=1" + many("+1", 296) + "+;", 1, 599);
        fine(LAW, "move=" + many("0", 594) + ";");
        fine(YEAR, padded(many("wave 30 20 1 times 9;", 20), 600));
        faulty(YEAR, padded(many("wave 30 20 1 times 9;", 20), 599) + ";", 1, 599);
        faulty(YEAR, padded("", 600), 1, 600);
        ShingleBank b = new ShingleBank();
        for (int i = 1; i <= 30; i++) {
            b.feed(0x20202020, 0x20202020, 0x20202020, 0x20202020, 0x20202020);
        }
        due("more than 600 bytes", b.feed(0, 0, 0, 0, 0), -1);
        refused(b, "a BEACH of 601 bytes", WRONG, () -> b.beach(601));
        refused(b, "a LAW of 601 bytes", WRONG, () -> b.law(601));
        refused(b, "a YEAR of 601 bytes", WRONG, () -> b.year(601));
        due("a LAW of 600 blanks", b.law(600), 0);
    }

    private static void clauses() {
        sentence("A BEACH: { CLAUSE \";\" }, at most 60.");
        due("none: 6 CELLS", fine(BEACH, "").told(0), 6);
        fine(BEACH, "wall 0 1;");
        fine(BEACH, many("wall 0 1;", 59));
        fine(BEACH, many("wall 0 1;", 60));
        fine(BEACH, many("wall 0 1;", 60) + "  ");
        fine(BEACH, "cells 3;sizes 3;" + many("wall 0 1;", 58));
        faulty(BEACH, "cells 3;sizes 3;" + many("wall 0 1;", 59), 3, 16 + 58 * 9);
        faulty(BEACH, many("wall 0 1;", 61), 3, 540);
        for (String word : new String[]{"cells", "sizes", "heap", "crest", "wall", "spring", "lorry"}) {
            faulty(BEACH, many("wall 0 1;", 60) + "  " + word, 3, 542);
            faulty(BEACH, many("wall 0 1;", 60) + word + " x", 3, 540);
        }
        faulty(BEACH, many("wall 0 1;", 60) + ";", 1, 540);
        faulty(BEACH, many("wall 0 1;", 60) + "1", 1, 540);
        faulty(BEACH, many("wall 0 1;", 60) + "wave", 1, 540);
    }

    private static void extents() {
        sentence("CLAUSE: \"cells\" N (2 to 12; 6 without; ahead of all that tell a CELL)");
        number(BEACH, "cells #;", 2, 12);
        due("2", fine(BEACH, "cells 2;").told(0), 2);
        due("12", fine(BEACH, "cells 12;").told(0), 12);
        due("without", fine(BEACH, "sizes 2;").told(0), 6);
        fine(BEACH, "cells 12;heap 11 0 0 1;");
        faulty(BEACH, "heap 11 0 0 1;cells 12;", 2, 5);
        for (String clause : CLAUSES) {
            faulty(BEACH, clause + "cells 6;", 4, clause.length());
            faulty(BEACH, "sizes 4;" + clause + "cells 6;", 4, 8 + clause.length());
        }
        sentence("\"sizes\" N (2 to 6; 4 without; ahead of all that tell a SIZE)");
        number(BEACH, "sizes #;", 2, 6);
        due("2", fine(BEACH, "sizes 2;").told(1), 2);
        due("6", fine(BEACH, "sizes 6;").told(1), 6);
        due("without", fine(BEACH, "cells 2;").told(1), 4);
        fine(BEACH, "sizes 6;heap 0 5 0 1;");
        faulty(BEACH, "heap 0 5 0 1;sizes 6;", 2, 7);
        for (String clause : CLAUSES) {
            faulty(BEACH, clause + "sizes 4;", 4, clause.length());
            faulty(BEACH, "cells 6;" + clause + "sizes 4;", 4, 8 + clause.length());
        }
        sentence("cells and sizes once, each ahead of all but the other one.");
        fine(BEACH, "cells 3;sizes 3;");
        fine(BEACH, "sizes 3;cells 3;");
        faulty(BEACH, "cells 3;cells 3;", 4, 8);
        faulty(BEACH, "sizes 3;sizes 3;", 4, 8);
        faulty(BEACH, "cells 3;sizes 3;cells 3;", 4, 16);
        faulty(BEACH, "cells 3;sizes 3;sizes 3;", 4, 16);
        faulty(BEACH, "sizes 3;cells 3;sizes 3;", 4, 16);
        faulty(BEACH, "sizes 3;cells 3;cells 3;", 4, 16);
        faulty(BEACH, "sizes 3;cells 3;wall 0 1;cells 3;", 4, 25);
    }

    private static void heaps() {
        sentence("\"heap\" C Z K N (CELL, SIZE, STUFF 0 to 2, stones 0 to 9,999; more than once: the last counts)");
        number(BEACH, "heap # 0 0 1;", 0, 5);
        number(BEACH, "cells 2;heap # 0 0 1;", 0, 1);
        number(BEACH, "cells 12;heap # 0 0 1;", 0, 11);
        number(BEACH, "heap 0 # 0 1;", 0, 3);
        number(BEACH, "sizes 2;heap 0 # 0 1;", 0, 1);
        number(BEACH, "sizes 6;heap 0 # 0 1;", 0, 5);
        number(BEACH, "heap 0 0 # 1;", 0, 2);
        number(BEACH, "heap 0 0 0 #;", 0, 9999);
        due("0 stones", fine(BEACH, "heap 0 0 0 0;").stones(-1, -1, -1), 0);
        due("9,999 stones", fine(BEACH, "heap 0 0 0 9999;").stones(0, 0, 0), 9999);
        due("the last counts", fine(BEACH, "heap 1 2 2 9;heap 1 2 2 30;heap 1 2 2 4;").stones(1, 2, 2), 4);
        due("the last counts, 0 too", fine(BEACH, "heap 1 2 2 9;heap 1 2 2 0;").stones(1, 2, 2), 0);
        ShingleBank b = fine(BEACH, "heap 1 2 2 9;heap 1 2 1 8;heap 1 2 2 5;");
        due("another STUFF stays", b.stones(1, 2, 1), 8);
        due("SUMS by the last alone", b.sums(0), 13);
        due("LOST by the last alone", b.lost(), 0);
    }

    private static void crestsAndWalls() {
        sentence("\"crest\" C H (1 to 60; 20 without)");
        number(BEACH, "crest # 1;", 0, 5);
        number(BEACH, "cells 2;crest # 1;", 0, 1);
        number(BEACH, "cells 12;crest # 1;", 0, 11);
        number(BEACH, "crest 0 #;", 1, 60);
        ShingleBank b = fine(BEACH, "crest 0 1;crest 5 60;");
        due("1", b.cell(0, 0), 1);
        due("60", b.cell(5, 0), 60);
        for (int c = 1; c < 5; c++) {
            due("without, " + c, b.cell(c, 0), 20);
        }
        sentence("\"wall\" C P (behind CELL C, which is not the last one, P of 16, 1 to 16, are caught)");
        number(BEACH, "wall # 1;", 0, 4);
        number(BEACH, "cells 2;wall # 1;", 0, 0);
        number(BEACH, "cells 12;wall # 1;", 0, 10);
        number(BEACH, "wall 0 #;", 1, 16);
        due("1", fine(BEACH, "wall 0 1;").cell(0, 1), 1);
        due("16", fine(BEACH, "wall 4 16;").cell(4, 1), 16);
        due("none", fine(BEACH, "wall 4 16;").cell(5, 1), 0);
    }

    private static void springsAndLorries() {
        sentence("\"spring\" C Z K N (1 to 999 each HOUR; 8 at most)");
        number(BEACH, "spring # 0 0 1;", 0, 5);
        number(BEACH, "cells 12;spring # 0 0 1;", 0, 11);
        number(BEACH, "spring 0 # 0 1;", 0, 3);
        number(BEACH, "sizes 6;spring 0 # 0 1;", 0, 5);
        number(BEACH, "spring 0 0 # 1;", 0, 2);
        number(BEACH, "spring 0 0 0 #;", 1, 999);
        due("none", fine(BEACH, "").told(2), 0);
        due("7", fine(BEACH, many("spring 0 0 0 1;", 7)).told(2), 7);
        due("8", fine(BEACH, many("spring 0 0 0 1;", 8)).told(2), 8);
        due("8, and others", fine(BEACH, many("spring 0 0 0 1;", 8) + "wall 0 1;").told(2), 8);
        faulty(BEACH, many("spring 0 0 0 1;", 9), 3, 120);
        faulty(BEACH, many("spring 0 0 0 1;", 8) + "wall 0 1; spring", 3, 130);
        sentence("or \"lorry\" C E N D (at most 4: each D HOURS, 1 to 99, N stones, 1 to 999, from CELL C to CELL E, not the same; E may be the number of CELLS: sold)");
        number(BEACH, "lorry # 6 1 1;", 0, 5);
        number(BEACH, "cells 2;lorry # 2 1 1;", 0, 1);
        number(BEACH, "cells 12;lorry # 12 1 1;", 0, 11);
        number(BEACH, "lorry 0 # 1 1;", 1, 6);
        number(BEACH, "cells 2;lorry 0 # 1 1;", 1, 2);
        number(BEACH, "cells 12;lorry 0 # 1 1;", 1, 12);
        number(BEACH, "lorry 5 # 1 1;", 0, 4);
        fine(BEACH, "lorry 5 6 1 1;");
        faulty(BEACH, "lorry 5 5 1 1;", 2, 8);
        faulty(BEACH, "lorry 3 003 1 1;", 2, 8);
        number(BEACH, "lorry 0 1 # 1;", 1, 999);
        number(BEACH, "lorry 0 1 1 #;", 1, 99);
        due("none", fine(BEACH, "").told(3), 0);
        due("3", fine(BEACH, many("lorry 0 1 1 1;", 3)).told(3), 3);
        due("4", fine(BEACH, many("lorry 0 1 1 1;", 4)).told(3), 4);
        due("4, and others", fine(BEACH, many("lorry 0 1 1 1;", 4) + "wall 0 1;").told(3), 4);
        faulty(BEACH, many("lorry 0 1 1 1;", 5), 3, 56);
        faulty(BEACH, many("lorry 0 1 1 1;", 4) + "spring 0 0 0 1; lorry", 3, 72);
    }

    // ---- a law ----

    private static void rules() {
        sentence("A LAW: { \"move\" or \"wear\" or \"over\", \"=\" E \";\" }, each once at most.");
        fine(LAW, "");
        String[] all = {"move=1;", "wear=2;", "over=3;"};
        for (int i = 0; i < 3; i++) {
            fine(LAW, all[i]);
            faulty(LAW, all[i] + all[i], 4, 7);
            for (int j = 0; j < 3; j++) {
                if (i != j) {
                    int k = 3 - i - j;
                    fine(LAW, all[i] + all[j]);
                    faulty(LAW, all[i] + all[j] + all[i], 4, 14);
                    ShingleBank b = fine(LAW, all[i] + all[j] + all[k]);
                    Texts.beach(b, "");
                    for (int what = 0; what < 3; what++) {
                        due("told as " + i + j + k + ", " + what, b.says(0, what, 0, 0, 0, 1, 1, 0), what + 1);
                    }
                    for (int again = 0; again < 3; again++) {
                        faulty(LAW, all[i] + all[j] + all[k] + " " + all[again], 4, 22);
                    }
                    faulty(LAW, all[i] + all[j] + all[k] + "x", 1, 21);
                }
            }
        }
        faulty(LAW, ";", 1, 0);
        faulty(LAW, "move=1;;", 1, 7);
        faulty(LAW, "cells 3;", 1, 0);
    }

    private static void expressions() {
        sentence("E: \"if\" C \"then\" E \"else\" E, or T { + or - T }. T: U { * or / U }.");
        fine(LAW, "move=1+2-3*4/5;");
        faulty(LAW, "move=;", 1, 5);
        faulty(LAW, "move=+1;", 1, 5);
        faulty(LAW, "move=-1;", 1, 5);
        faulty(LAW, "move=*1;", 1, 5);
        for (String sign : new String[]{"+", "-", "*", "/"}) {
            faulty(LAW, "move=1" + sign + ";", 1, 7);
            faulty(LAW, "move=1" + sign + sign + "1;", 1, 7);
            faulty(LAW, "move=1" + sign + "if 1=1 then 1 else 1;", 1, 7);
        }
        faulty(LAW, "move=if 1=1 then 1;", 1, 18);
        faulty(LAW, "move=if 1=1 then 1 else;", 1, 23);
        faulty(LAW, "move=if then 1 else 1;", 1, 8);
        faulty(LAW, "move=if 1=1 else 1;", 1, 12);
        sentence("U: N (0 to 9,999), \"size\", \"stuff\", \"above\", \"below\", \"height\", \"beat\", \"from\", \"crest\", \"cell\", or \"(\" E \")\".");
        number(LAW, "move=#;", 0, 9999);
        number(LAW, "over=1+ #;", 0, 9999);
        for (String name : new String[]{"size", "stuff", "above", "below", "height", "beat", "from", "crest", "cell"}) {
            fine(LAW, "move=" + name + ";");
            faulty(LAW, "move=" + name + "s;", 1, 5);
            faulty(LAW, "move=" + name.substring(1) + ";", 1, 5);
            faulty(LAW, "move=" + name.substring(0, name.length() - 1) + ";", 1, 5);
        }
        fine(LAW, "move=(1);");
        faulty(LAW, "move=();", 1, 6);
        faulty(LAW, "move=(1;", 1, 7);
        faulty(LAW, "move=1);", 1, 6);
        sentence("C: D { \"or\" D }. D: B { \"and\" B }. B: \"not\" B, \"[\" C \"]\", or E R E; R: <, > or =.");
        fine(LAW, "move=if " + many("1=1 or ", 60) + "1=1 then 1 else 1;");
        fine(LAW, "move=if " + many("1=1and ", 60) + "1=1 then 1 else 1;");
        faulty(LAW, "move=if 1=1 or then 1 else 1;", 1, 15);
        faulty(LAW, "move=if 1=1 and then 1 else 1;", 1, 16);
        faulty(LAW, "move=if or 1=1 then 1 else 1;", 1, 8);
        faulty(LAW, "move=if not then 1 else 1;", 1, 12);
        faulty(LAW, "move=if [] then 1 else 1;", 1, 9);
        faulty(LAW, "move=if [1=1 then 1 else 1;", 1, 13);
        faulty(LAW, "move=if 1=1] then 1 else 1;", 1, 11);
        faulty(LAW, "move=if 1 then 1 else 1;", 1, 10);
        faulty(LAW, "move=if 1=1=1 then 1 else 1;", 1, 11);
        faulty(LAW, "move=if 1= then 1 else 1;", 1, 11);
        faulty(LAW, "move=if 1>=1 then 1 else 1;", 1, 10);
        faulty(LAW, "move=if (1=1) then 1 else 1;", 1, 10);
        faulty(LAW, "move=1=1;", 1, 6);
        faulty(LAW, "move=not 1=1;", 1, 5);
        faulty(LAW, "move=[1=1];", 1, 5);
    }

    /** A row of openers told as a text that is whole; the place of the innermost one is kept. */
    private static final class Nested {
        final StringBuilder text = new StringBuilder("over=");
        int place = -1;

        Nested(List<String> row) {
            value(row, 0);
            text.append(';');
        }

        private void value(List<String> row, int at) {
            if (at == row.size()) {
                text.append('1');
                return;
            }
            place = text.length();
            if (row.get(at).equals("(")) {
                text.append('(');
                value(row, at + 1);
                text.append(')');
            } else {
                text.append("if ");
                condition(row, at + 1);
                text.append(" then 1 else 1");
            }
        }

        private void condition(List<String> row, int at) {
            String next = at == row.size() ? "" : row.get(at);
            if (next.equals("[")) {
                place = text.length();
                text.append('[');
                condition(row, at + 1);
                text.append(']');
            } else if (next.equals("not")) {
                place = text.length();
                text.append("not ");
                condition(row, at + 1);
            } else {
                value(row, at);
                text.append("=1");
            }
        }
    }

    /** All rows of so many openers that may stand in each other. */
    private static void rows(List<String> row, boolean inCondition, int left, List<List<String>> all) {
        if (left == 0) {
            all.add(new ArrayList<>(row));
            return;
        }
        for (String opener : new String[]{"(", "if", "[", "not"}) {
            boolean ofCondition = opener.equals("[") || opener.equals("not");
            if (inCondition || !ofCondition) {
                row.add(opener);
                rows(row, ofCondition || opener.equals("if"), left - 1, all);
                row.remove(row.size() - 1);
            }
        }
    }

    private static void openOnes() {
        sentence("or a 7th of ( [ not and if that is open at one time (not: till its B ends, if: till its E ends)");
        List<List<String>> all = new ArrayList<>();
        rows(new ArrayList<>(), false, 6, all);
        for (List<String> row : all) {
            fine(LAW, new Nested(row).text.toString());
        }
        all.clear();
        rows(new ArrayList<>(), false, 7, all);
        for (List<String> row : all) {
            Nested nested = new Nested(row);
            faulty(LAW, nested.text.toString(), 3, nested.place);
        }
        String six = "((((((1))))))";
        fine(LAW, "move=" + six + "+" + six + "*" + six + ";wear=" + six + ";");
        faulty(LAW, "move=" + six + "+((((((( ", 3, 5 + 13 + 1 + 6);
        // a not is open till its B ends: not beyond an and, an or
        fine(LAW, "move=if " + many("not 1=1 and ", 9) + many("not ", 5) + "1=1 then 1 else 1;");
        fine(LAW, "move=if " + many("not 1=1 or ", 9) + many("not ", 5) + "1=1 then 1 else 1;");
        faulty(LAW, "move=if not 1=1 and " + many("not ", 6) + "1=1 then 1 else 1;", 3, 20 + 5 * 4);
        fine(LAW, "move=if not not not not not 1=((1)-1) then 1 else 1;".replace("((1)-1)", "1"));
        faulty(LAW, "move=if not not not not not 1=(1) then 1 else 1;", 3, 30);
        fine(LAW, "move=if not not not not 1=(1) and 1=(1) then 1 else 1;");
        // a [ is open till its ]
        fine(LAW, "move=if " + many("[1=1] or ", 9) + "[[[[[1=1]]]]] then 1 else 1;");
        faulty(LAW, "move=if [1=1] or [[[[[[1=1", 3, 17 + 5);
        // an if is open till its E ends, in each of its parts
        String onward = "if 1=1 then 1 else ";
        fine(LAW, "move=" + many(onward, 6) + "1;");
        faulty(LAW, "move=" + many(onward, 7) + "1;", 3, 5 + 6 * 19);
        faulty(LAW, "move=" + many(onward, 6) + "(1);", 3, 5 + 6 * 19);
        String inner = "if 1=1 then ";
        fine(LAW, "move=" + many(inner, 6) + "1" + many(" else 1", 6) + ";");
        faulty(LAW, "move=" + many(inner, 7) + "1", 3, 5 + 6 * 12);
        fine(LAW, "move=" + many("(if 1=1 then 1 else 1)+", 9) + "(" + many("if 1=1 then ", 5) + "1" + many(" else 1", 5) + ");");
        fine(LAW, "move=if 1=1 then if 1=1 then 1 else 1 else ((((1))))+(((((1)))));");
        faulty(LAW, "move=if 1=1 then if 1=1 then 1 else 1 else ((((((1))))));", 3, 48);
        faulty(LAW, "move=if 1=1 then if 1=1 then 1 else (((((1))))) else 1;", 3, 40);
        faulty(LAW, "move=if if 1=1 then 1 else (((((1))))) = 1 then 1 else 1;", 3, 31);
    }

    // ---- a year ----

    private static void years() {
        sentence("A YEAR: { \"wave\" H B F, perhaps \"times\" N, \";\" }: height 1 to 30, beat 1 to 20, from 0 (to the next CELL) or 1 (to the one ahead), N 1 to 9 (1 without): at most 20 of these, 1 at least.");
        number(YEAR, "wave # 1 0;", 1, 30);
        number(YEAR, "wave 1 # 0;", 1, 20);
        number(YEAR, "wave 1 1 #;", 0, 1);
        number(YEAR, "wave 1 1 0 times #;", 1, 9);
        faulty(YEAR, "", 1, 0);
        faulty(YEAR, " ", 1, 1);
        due("1", hoursOf("wave 1 1 0;"), 1);
        due("1 without, 1 with", hoursOf("wave 1 1 0;wave 1 1 0 times 1;"), 2);
        due("times 9", hoursOf("wave 1 1 0 times 9;"), 9);
        due("19", hoursOf(many("wave 1 1 0;", 19)), 19);
        due("20", hoursOf(many("wave 1 1 0;", 20)), 20);
        due("20 of 9", hoursOf(many("wave 1 1 0 times 9;", 20)), 180);
        faulty(YEAR, many("wave 1 1 0;", 21), 3, 220);
        faulty(YEAR, many("wave 1 1 0 times 9;", 20) + "  wave", 3, 382);
        faulty(YEAR, many("wave 1 1 0;", 20) + ";", 1, 220);
        faulty(YEAR, many("wave 1 1 0;", 20) + "waves", 1, 220);
        faulty(YEAR, "wave 1 1;", 1, 8);
        faulty(YEAR, "wave 1 1 0 1;", 1, 11);
        faulty(YEAR, "wave 1 1 0 times;", 1, 16);
        faulty(YEAR, "wave 1 1 0 times 1 times 1;", 1, 19);
        faulty(YEAR, "times 1;", 1, 0);
        ShingleBank b = on("cells 3;heap 1 0 0 5;heap 0 0 0 7;", "move=16;", "wave 1 1 0;");
        due("from 0", b.left(0, 0, 2, 0), 5);
        Texts.year(b, "wave 1 1 1;");
        due("from 1", b.left(0, 1, 0, 0), 12);
    }

    private static int hoursOf(String year) {
        return on("", "", year).run(0, 0);
    }

    // ---- numbers, words, blanks ----

    private static void numbers() {
        sentence("Numbers: digits, as many as stand there");
        due("one digit", fine(BEACH, "cells 2;").told(0), 2);
        due("two digits", fine(BEACH, "cells 12;").told(0), 12);
        due("zeros ahead", fine(BEACH, "cells " + many("0", 580) + "12;").told(0), 12);
        due("nothing but zeros", fine(BEACH, "heap 0 0 0 " + many("0", 500) + ";").sums(0), 0);
        faulty(BEACH, "cells " + many("9", 590) + ";", 2, 6);
        faulty(BEACH, "cells 1 2;", 2, 6);
        faulty(BEACH, "cells 3 4;", 1, 8);
        faulty(BEACH, "cells " + many("0", 300) + ";", 2, 6);
        // / and : stand next to the digits
        faulty(BEACH, "cells 3/;", 1, 7);
        faulty(BEACH, "cells 3:;", 1, 7);
        faulty(BEACH, "cells 3.;", 1, 7);
        faulty(BEACH, "cells 1,2;", 2, 6);
        due("a word may stand right behind", fine(YEAR, "wave 1 1 0times 9;").told(5), 1);
    }

    private static void words() {
        sentence("WORDS: small letters, as many as stand there");
        due("a number may stand right behind", fine(BEACH, "cells3;").told(0), 3);
        faulty(BEACH, "cell 3;", 1, 0);
        faulty(BEACH, "cellss 3;", 1, 0);
        faulty(BEACH, "Cells 3;", 1, 0);
        faulty(BEACH, "cellS 3;", 1, 0);
        faulty(BEACH, "cellsX3;", 1, 5);
        // ` and { stand next to the letters
        faulty(BEACH, "cells`3;", 1, 5);
        faulty(BEACH, "cells{3;", 1, 5);
        faulty(BEACH, "cells\u00e93;", 1, 5);
        faulty(BEACH, "`", 1, 0);
        faulty(BEACH, "{", 1, 0);
        faulty(BEACH, "\u00ff", 1, 0);
        faulty(BEACH, "\u0080", 1, 0);
        faulty(BEACH, "\u0000", 1, 0);
        faulty(LAW, "move=sizestuff;", 1, 5);
        faulty(LAW, "move=size stuff;", 1, 10);
        faulty(LAW, "move=if1=1 then 1 else 1;".replace("if1", "ifsize"), 1, 5);
        fine(LAW, "move=if1=1then 1else 1;");
        fine(LAW, "move=if size=1or size=2then 1else 1;");
        faulty(LAW, "move=if size=1 orsize=2 then 1 else 1;", 1, 15);
    }

    private static void blanks() {
        sentence("blanks (32) may stand ahead of all these, and at the end");
        due("ahead", fine(BEACH, "   cells 3;").told(0), 3);
        due("at the end", fine(BEACH, "cells 3;   ").told(0), 3);
        due("more than one", fine(BEACH, "  cells   3  ;  sizes   2  ;").told(0), 3);
        due("none where none are needed", fine(BEACH, "cells3;sizes2;heap1 1 2 9;").stones(1, 1, 2), 9);
        fine(LAW, "  move  =  if  1  <  2  then  (  1  )  else  not2  ;  ".replace("not2", "2"));
        fine(LAW, " move = if not [ 1 < 2 ] and 1 > 2 then 1 * 2 / 3 else 4 + 5 - 6 ; ");
        fine(YEAR, "   wave   1   1   0   times   3   ;   ");
        fine(BEACH, many(" ", 600));
        fine(LAW, many(" ", 600));
        faulty(YEAR, many(" ", 600), 1, 600);
        // 31 and 33 stand next to it; others that look like one are none
        for (char other : new char[]{'\t', '\n', '\r', '\u000b', '\f', '\u001f', '!', '\u0000', '\u00a0', '_'}) {
            faulty(BEACH, "cells 3;" + other, 1, 8);
            faulty(BEACH, "cells" + other + "3;", 1, 5);
            faulty(BEACH, "cells 3" + other + ";", 1, 7);
            faulty(BEACH, other + "cells 3;", 1, 0);
        }
    }

    // ---- faults ----

    private static void faultOrder() {
        sentence("FAULTS, the first from the left, at its first byte");
        faulty(BEACH, "cells 1;x", 2, 6);
        faulty(BEACH, "x;cells 1;", 1, 0);
        faulty(BEACH, "heap 9 9 9 99999;", 2, 5);
        faulty(BEACH, "heap 0 9 9 99999;", 2, 7);
        faulty(BEACH, "heap 0 0 9 99999;", 2, 9);
        faulty(BEACH, "heap 0 0 0 99999", 2, 11);
        faulty(BEACH, "cells 3;cells 99;", 4, 8);
        faulty(BEACH, "cells 99;cells 3;", 2, 6);
        faulty(BEACH, "   cells   99;", 2, 11);
        faulty(LAW, "move=10000+x;", 2, 5);
        faulty(LAW, "move=x+10000;", 1, 5);
        faulty(LAW, "move=1;move=10000;", 4, 7);
        faulty(YEAR, "wave 99 99 99 times 99;", 2, 5);
        faulty(YEAR, "wave 1 99 99 times 99;", 2, 7);
        sentence("1 what can't stand there (at the length, if the text ends too early)");
        faulty(BEACH, "cells", 1, 5);
        faulty(BEACH, "cells ", 1, 6);
        faulty(BEACH, "cells 3", 1, 7);
        faulty(BEACH, "cells 3  ", 1, 9);
        faulty(BEACH, "cells ;", 1, 6);
        faulty(BEACH, "cells x", 1, 6);
        faulty(LAW, "move", 1, 4);
        faulty(LAW, "move=", 1, 5);
        faulty(LAW, "move=1  ", 1, 8);
        faulty(YEAR, "wave 1 1 0 ", 1, 11);
        sentence("2 a number that is none such");
        faulty(BEACH, "sizes 0000;", 2, 6);
        faulty(BEACH, "sizes 7", 2, 6);
        faulty(LAW, "move=10000", 2, 5);
        faulty(YEAR, "wave 0", 2, 5);
        sentence("3 a CLAUSE, spring, lorry, wave too many (at its word)");
        faulty(BEACH, many("wall 0 1;", 60) + " wall", 3, 541);
        faulty(BEACH, many("spring 0 0 0 1;", 8) + " spring 0 0 0 1;", 3, 121);
        faulty(BEACH, many("lorry 0 1 1 1;", 4) + " lorry 0 1 1 1;", 3, 57);
        faulty(YEAR, many("wave 1 1 0;", 20) + " wave 1 1 0;", 3, 221);
        sentence("4 a word for the second time that may come once, or cells, sizes too late (at the word); of one the least.");
        faulty(LAW, "move=1; move=2;", 4, 8);
        faulty(LAW, "wear=1;wear", 4, 7);
        faulty(BEACH, "cells 3; cells x", 4, 9);
        faulty(BEACH, "wall 0 1; sizes 2;", 4, 10);
        faulty(BEACH, many("wall 0 1;", 59) + "cells 3;", 4, 531);
        faulty(BEACH, many("wall 0 1;", 60) + "cells 3;", 3, 540);
        faulty(BEACH, many("wall 0 1;", 60) + "sizes 3;", 3, 540);
        faulty(BEACH, "cells 3;" + many("wall 0 1;", 59) + "cells 3;", 3, 8 + 59 * 9);
        faulty(LAW, "over=((((((not", 1, 11);
        faulty(LAW, "over=((((((if", 3, 11);
        faulty(LAW, "over=((((((1+if", 1, 13);
    }

    /** Every beginning of a text: a word that is cut can't stand there, all else ends too early. */
    private static void endsTooEarly() {
        sentence("1 what can't stand there (at the length, if the text ends too early)");
        beginnings(BEACH, "cells 9;sizes 6;heap 8 5 2 9999;crest 7 60;wall 7 16;spring 8 5 2 999;lorry 8 9 999 99;");
        beginnings(LAW, "move=if size+2*beat<30/(stuff-1) or not [above>below and from=0] then (height-crest)*2 else if cell=0 then 16 else 0;wear=1;");
        beginnings(YEAR, "wave 30 20 1 times 9;wave 1 1 0;");
    }

    private static void beginnings(int which, String text) {
        for (int n = 0; n <= text.length(); n++) {
            String part = text.substring(0, n);
            String told = part.trim();
            boolean whole = told.isEmpty() ? which != YEAR : told.endsWith(";");
            int word = n;
            while (word > 0 && Character.isLetter(part.charAt(word - 1))) {
                word--;
            }
            boolean cutWord = word < n && n < text.length() && Character.isLetter(text.charAt(n));
            if (whole) {
                fine(which, part);
                fine(which, part + "  ");
            } else {
                faulty(which, part, 1, cutWord ? word : n);
                faulty(which, part + "  ", 1, cutWord ? word : n + 2);
            }
        }
    }

    // ---- values ----

    private static long value(String expression) {
        ShingleBank b = on("cells 2;heap 0 1 0 4;crest 0 9;", "wear=" + expression + ";");
        return b.says(0, 1, 0, 1, 2, 30, 20, 1);
    }

    private static void values() {
        String least = "2048*1024*1024";
        sentence("VALUES of E are whole numbers of 32 bits that wrap; / cuts, by 0 it is 0");
        due("the least", value(least), MIN);
        due("the greatest", value(least + "-1"), MAX);
        due("one more than the greatest", value("(" + least + "-1)+1"), MIN);
        due("one less than the least", value("0-" + least + "-1"), MAX);
        due("2 to the 32", value("256*256*256*256"), 0);
        due("2 to the 32, and 1", value("256*256*256*256+1"), 1);
        due("a product that wraps", value("9999*9999*9999"), 9999 * 9999 * 9999);
        due("the least by -1", value(least + "/(0-1)"), MIN);
        due("the least times -1", value(least + "*(0-1)"), MIN);
        due("the greatest and itself", value("(" + least + "-1)*2"), -2);
        due("15 by 16", value("15/16"), 0);
        due("16 by 16", value("16/16"), 1);
        due("31 by 16", value("31/16"), 1);
        due("-15 by 16", value("(0-15)/16"), 0);
        due("-17 by 16", value("(0-17)/16"), -1);
        due("17 by -16", value("17/(0-16)"), -1);
        due("-17 by -16", value("(0-17)/(0-16)"), 1);
        due("0 by 0", value("0/0"), 0);
        due("7 by 0", value("7/0"), 0);
        due("-7 by 0", value("(0-7)/0"), 0);
        due("the least by 0", value(least + "/0"), 0);
        due("by what is 0", value("7/(size-1)"), 0);
        due("by 0 and on", value("7/0*5+3"), 3);
        due("by what wraps to 0", value("7/(256*256*256*256)"), 0);
        due("by by", value("100/7/2"), 7);
        due("a comparison of what wrapped", value("if " + least + "<0 then 1 else 2"), 1);
        due("the least is less than the greatest", value("if " + least + "<" + least + "-1 then 1 else 2"), 1);
        due("and not more", value("if " + least + ">" + least + "-1 then 1 else 2"), 2);
        sentence("or, and: both sides are worked, of then and else only the one.");
        String[] sides = {"1=2", "1=1"};
        for (int a = 0; a < 2; a++) {
            for (int b = 0; b < 2; b++) {
                due("or " + a + b, value("if " + sides[a] + " or " + sides[b] + " then 1 else 0"), a | b);
                due("and " + a + b, value("if " + sides[a] + " and " + sides[b] + " then 1 else 0"), a & b);
                due("or not " + a + b, value("if not " + sides[a] + " or not " + sides[b] + " then 1 else 0"), 1 - (a & b));
            }
            due("a side that divides by 0", value("if " + sides[a] + " or 1/0=0 then 1 else 0"), 1);
            due("a side that divides by 0", value("if " + sides[a] + " and 1/0=1 then 1 else 0"), 0);
            due("then or else", value("if " + sides[a] + " then 5 else 7"), 7 - 2 * a);
            due("then or else, the other divides by 0", value("if " + sides[a] + " then 5/0 else 7"), 7 - 7 * a);
        }
        String[] tests = {"1<2", "2>1", "2=2", "2<1", "1>2", "1=2"};
        for (int a = 0; a < 6; a++) {
            for (int b = 0; b < 6; b++) {
                String told = tests[a] + " and, or " + tests[b];
                due(told, value("if " + tests[a] + " and " + tests[b] + " then 1 else 0"), a < 3 && b < 3 ? 1 : 0);
                due(told, value("if " + tests[a] + " or " + tests[b] + " then 1 else 0"), a < 3 || b < 3 ? 1 : 0);
                due(told, value("if not " + tests[a] + " and " + tests[b] + " then 1 else 0"), a >= 3 && b < 3 ? 1 : 0);
                due(told, value("if " + tests[a] + " or not " + tests[b] + " then 1 else 0"), a < 3 || b >= 3 ? 1 : 0);
                due(told, value("if not [" + tests[a] + " or " + tests[b] + "] then 1 else 0"), a >= 3 && b >= 3 ? 1 : 0);
            }
        }
        due("less by one", value("if 4<5 then 1 else 0"), 1);
        due("less, alike", value("if 5<5 then 1 else 0"), 0);
        due("more by one", value("if 6>5 then 1 else 0"), 1);
        due("more, alike", value("if 5>5 then 1 else 0"), 0);
        due("alike", value("if 5=5 then 1 else 0"), 1);
        due("not alike by one", value("if 5=6 then 1 else 0") + value("if 6=5 then 1 else 0"), 0);
    }
}
