/** The boundary cases under "Terms" of THE TEXT, of STATES and of refused calls, sentence by sentence. */
public final class TextBoundariesTest extends BoundaryRows {
    private static final int MOST_BYTES = 120;

    private static String blanks(int count) {
        return " ".repeat(count);
    }

    // ---- the text

    private static void length() {
        says("Terms", "THE TEXT (120 bytes at most)");
        SecretSteps x = new SecretSteps();
        for (int i = 1; i <= MOST_BYTES; i++) {
            due("byte " + i, x.type(i == 1 ? 'v' : i == 2 ? '0' : i == 120 ? ';' : i == 119 ? '9' : ' '), i);
        }
        due("a 121st", x.type('x'), FULL);
        due("bytes", x.refused(3), MOST_BYTES);
        due("the 120th is read, the 121st is not there", x.does(), 1);
        due("START", x.told(2), 9);
        due("119 bytes", doneNew("v0 9;" + blanks(114)), 1);
        due("119 bytes, no ;", doneNew("v0 9" + blanks(115)), fault(119));
        due("120 bytes, no ;", doneNew("v0 9" + blanks(116)), fault(120));
        due("121 bytes, the ; lost", doneNew("v0 9" + blanks(116) + ";"), fault(120));
        due("the 120th byte can not stand there", doneNew("v0 9;" + blanks(114) + ";"), fault(119));
    }

    private static void orders() {
        says("Terms", "each ended by ; : l k x y z (as line), d i (as drops), t i v (as table), v x n (as start), p x b (as secret).");
        SecretSteps x = new SecretSteps();
        due("l", done(x, "l8 1 2 3;"), 1);
        dueAll("l", new int[] {x.told(0), x.of(0, 0), x.of(0, 1), x.of(0, 2), x.of(0, 3)}, 1, PICK, 1, 2, 3);
        due("t", done(x, "t4 5;"), 1);
        due("t: told(12)", x.told(12), 5);
        due("v", done(x, "v4 15;"), 1);
        due("v: told(6)", x.told(6), 15);
        due("p 1", done(x, "p4 1;"), 1);
        due("p 1: told(1)", x.told(1), 16);
        due("p 0", done(x, "p4 0;"), 1);
        due("p 0: told(1)", x.told(1), 0);
        due("d", done(x, "d0;"), 1);
        due("d: told(0)", x.told(0), 0);
        // of each the numbers one less, as many, one more
        due("l of 3", doneNew("l0 0 0;"), fault(6));
        due("l of 4", doneNew("l0 0 0 0;"), 1);
        due("l of 5", doneNew("l0 0 0 0 0;"), fault(9));
        due("d of none", doneNew("d;"), fault(1));
        due("d of 1", done(idle(1), "d0;"), 1);
        due("d of 2", done(idle(1), "d0 0;"), fault(3));
        for (char letter : new char[] {'t', 'v', 'p'}) {
            due(letter + " of 1", doneNew(letter + "0;"), fault(2));
            due(letter + " of 2", doneNew(letter + "0 0;"), 1);
            due(letter + " of 3", doneNew(letter + "0 0 0;"), fault(5));
        }
        due("two ended", doneNew("p0 1;p1 1;"), 2);
        due("the first not ended", doneNew("p0 1p1 1;"), fault(4));
        due("the second not ended", doneNew("p0 1;p1 1"), fault(9));
        due("ended twice", doneNew("p0 1;;"), fault(5));
        refusedAsTheirCalls();
    }

    /** Each ORDER at the last number that its call takes, and at the next one. */
    private static void refusedAsTheirCalls() {
        String[] taken = {"l8 5 5 5;", "l0 5 15 0;", "l7 5 20 0;", "l1 5 5 0;", "t15 15;", "v5 15;", "p5 1;", "d0;"};
        String[] refused = {
            "l9 0 0 0;", "l8 6 5 5;", "l8 5 6 5;", "l8 5 5 6;", "l0 5 16 0;", "l0 6 15 0;", "l0 5 15 1;", "l7 5 21 0;", "l7 5 20 1;", "l1 5 6 0;", "l1 6 5 0;",
            "l1 5 5 1;", "t15 16;", "t16 15;", "v5 16;", "v6 15;", "p5 2;", "p6 1;", "d1;", "d99;", "l99 99 99 99;"};
        for (String order : taken) {
            due("taken " + order, done(idle(1), order), 1);
        }
        for (String order : refused) {
            due("refused " + order, done(idle(1), order), ends(0));
        }
    }

    private static void figures() {
        says("Terms", "Numbers have 1 or 2 figures;");
        due("no figure", doneNew("v0 ;"), fault(3));
        due("1 figure", doneNew("v0 9;"), 1);
        due("2 figures", doneNew("v0 15;"), 1);
        due("3 figures", doneNew("v0 015;"), fault(5));
        due("3 figures of the first number", doneNew("v000 1;"), fault(3));
        due("2 figures of each", doneNew("v00 01;"), 1);
        SecretSteps x = new SecretSteps();
        due("l of 2 figures each", done(x, "l07 05 09 00;"), 1);
        dueAll("l of 2 figures each", new int[] {x.of(0, 0), x.of(0, 1), x.of(0, 2), x.of(0, 3)}, JUMP, 5, 9, 0);
        due("09", done(x, "v0 09;") + 100 * x.told(2), 901);
        due("10", done(x, "v0 10;") + 100 * x.told(2), 1001);
        due("11", done(x, "v0 11;") + 100 * x.told(2), 1101);
        due("20", done(x, "l7 0 20 0;") + 100 * x.of(1, 2), 2001);
        due("99 is a number, but none that START can be", done(x, "v0 99;"), ends(0));
        due("100 is no number", done(x, "v0 100;"), fault(5));
    }

    private static void blanksInIt() {
        says("Terms", "blanks (32) may stand anywhere but within a number, needed only where figures of two numbers would else stand side by side.");
        due("ahead of all", doneNew(" v0 9;"), 1);
        due("behind the letter", doneNew("v 0 9;"), 1);
        due("two between numbers", doneNew("v0  9;"), 1);
        due("ahead of the ;", doneNew("v0 9 ;"), 1);
        due("behind the ;", doneNew("v0 9; "), 1);
        due("between ORDERS", doneNew("v0 9; v1 9;"), 2);
        due("everywhere", doneNew("   v   0   9   ;   v   1   15   ;   "), 2);
        due("nowhere but between numbers", doneNew("l8 1 2 3;l0 5 15 0;d0;t15 0;v5 15;p5 1;"), 6);
        SecretSteps x = new SecretSteps();
        due("within a number it is two", done(x, "v0 1 5;"), fault(5));
        due("not within one", done(x, "v0 15;"), 1);
        due("not between two it is one", done(x, "v05;"), fault(3));
        due("between two", done(x, "v0 5;"), 1);
        due("33 is no blank", doneNew("v0!9;"), fault(2));
        due("31 is no blank", doneNew("v0" + (char) 31 + "9;"), fault(2));
        due("9 is no blank", doneNew("v0" + (char) 9 + "9;"), fault(2));
        due("10 is no blank", doneNew("v0 9;" + (char) 10), fault(5));
    }

    private static void readWhole() {
        says("Terms", "THE TEXT is read whole first; an ORDER that its call would refuse then ends all, nothing is done.");
        SecretSteps x = program(3, l(SET, 0, 1, 0));
        x.clear();
        int[] before = all(x);
        due("the first refused", done(x, "d1;v0 9;"), ends(0));
        due("the last refused", done(x, "v0 9;t0 9;l0 0 0 0;p0 0;d2;"), ends(4));
        due("the last but one refused", done(x, "v0 9;v0 16;v0 8;"), ends(1));
        due("the first of two", done(x, "v0 9;v0 16;v0 17;"), ends(1));
        due("read whole first", done(x, "v0 16;?"), fault(6));
        due("read whole first, it ends too early", done(x, "v0 16;v"), fault(7));
        x.clear();
        dueAll("nothing is done", all(x), before);
        due("then: there are two already", done(x, "p2 1;"), ends(0));
        due("then: one is gone by then", done(x, "p0 0;p2 1;"), 2);
        due("then: LINE 1 is not there", done(x, "d1;"), ends(0));
        due("then: it is there by then", done(x, "l0 0 0 0;d1;"), 2);
        due("then: LINE 0 is gone by then", done(x, "d0;d0;"), ends(1));
        due("an answer of 0 is none that is refused", done(x, "v5 0;v5 0;"), 2);
    }

    private static final String FIGURES = "0123456789";
    private static final String LETTERS = "ldtvp";

    /** For each byte 0 to 127: the FAULT is at it, if it is none of those that can stand behind this text. */
    private static void canStandBehind(String text, String bytes) {
        for (int c = 0; c < 128; c++) {
            int answer = doneNew(text + (char) c);
            boolean stands = bytes.indexOf(c) >= 0;
            boolean faultThere = answer == fault(text.length());
            due("byte " + c + " behind '" + text + "' has no FAULT there", faultThere ? 0 : 1, stands ? 1 : 0);
            if (stands && c != ';') {
                boolean whole = c == ' ' && text.trim().endsWith(";");
                due("byte " + c + " behind '" + text + "' as the last", answer, whole ? 1 : fault(text.length() + 1));
            }
        }
    }

    private static void faults() {
        says("Terms", "FAULT: the place of the first byte that can not stand there (a third figure);");
        canStandBehind("", " " + LETTERS);
        canStandBehind("  ", " " + LETTERS);
        canStandBehind("v0 0;", " " + LETTERS);
        canStandBehind("v0 0; ", " " + LETTERS);
        for (char letter : LETTERS.toCharArray()) {
            String ends = letter == 'd' ? ";" : "";
            canStandBehind("" + letter, " " + FIGURES);
            canStandBehind(letter + " ", " " + FIGURES);
            canStandBehind(letter + "0", " " + FIGURES + ends);
            canStandBehind(letter + "12", " " + ends);
            canStandBehind(letter + "1 ", " " + (letter == 'd' ? ends : FIGURES));
            canStandBehind(letter + "12 ", " " + (letter == 'd' ? ends : FIGURES));
        }
        for (char letter : new char[] {'t', 'v', 'p'}) {
            canStandBehind(letter + "0 0", " ;" + FIGURES);
            canStandBehind(letter + "0 12", " ;");
            canStandBehind(letter + "0 1 ", " ;");
        }
        canStandBehind("l0 0", " " + FIGURES);
        canStandBehind("l0 0 0", " " + FIGURES);
        canStandBehind("l0 0 12", " ");
        canStandBehind("l0 0 0 ", " " + FIGURES);
        canStandBehind("l0 0 0 0", " ;" + FIGURES);
        canStandBehind("l0 0 0 12", " ;");
        canStandBehind("l0 0 0 0 ", " ;");
        due("the first of two", doneNew("v0 ?!"), fault(3));
        due("place 0", doneNew("?v0 0;"), -10);
        due("place 1", doneNew("v?0 0;"), -11);
        due("place 119", doneNew("v0 0;" + blanks(114) + "?"), -129);
    }

    private static void endsTooEarly() {
        says("Terms", "the TEXT's length, if it ends too early (one that is empty or has blanks alone, too).");
        due("empty", doneNew(""), fault(0));
        for (int count : new int[] {1, 2, 119, 120}) {
            due(count + " blanks", doneNew(blanks(count)), fault(count));
        }
        String whole = " l 08 1 2 3 ; p 5 01 ;";
        for (int length = 0; length < whole.length(); length++) {
            boolean ended = length == 13 || length == 14;
            due("the first " + length + " bytes", doneNew(whole.substring(0, length)), ended ? 1 : fault(length));
        }
        due("all of them", doneNew(whole), 2);
        SecretSteps x = new SecretSteps();
        due("one that can be done", done(x, "v0 1;"), 1);
        x.clear();
        due("cleared", x.does(), fault(0));
    }

    private static void nothingDoneByAFault() {
        says("Terms", "If there is one, nothing is done.");
        SecretSteps x = program(3, l(SET, 0, 1, 0));
        int[] before = all(x);
        due("all is done without one", done(x, "v0 9;t0 9;l0 0 0 0;p0 0;d0;"), 5);
        x.back();
        due("FAULT of the length", done(x, "v0 9;t0 9;l0 0 0 0;p0 0;d0"), fault(26));
        due("FAULT of a byte", done(x, "v0 9;t0 9;l0 0 0 0;p0 0;d0:"), fault(26));
        due("FAULT of blanks", done(x, "  "), fault(2));
        x.clear();
        dueAll("as it was", all(x), before);
    }

    // ---- states

    private static int left(SecretSteps x) {
        return x.refused(4);
    }

    private static void eachCallLeavesOne() {
        says("Terms", "STATES: each call told S, if it is not refused, leaves one, also if nothing becomes other by it, to go back to");
        SecretSteps x = new SecretSteps();
        due("new", left(x), 0);
        x.start(0, 0);
        due("START as it was", left(x), 1);
        x.table(3, 3);
        due("TABLE as it was", left(x), 2);
        x.secret(0, 0);
        due("PUBLIC as it was", left(x), 3);
        done(x, "v0 0;");
        due("ORDERS that change nothing, one for all", left(x), 4);
        due("one back", x.back(), 3);
        x.line(0, 0, 0, 0);
        due("a LINE", left(x), 4);
        x.drops(0);
        due("a LINE goes", left(x), 5);
        SecretSteps two = program(3);
        due("SECRET as it was", two.secret(0, 1) * 10 + left(two), 13);
        due("a third stays PUBLIC", two.secret(5, 0) * 10 + left(two), 4);
        due("back from nothing", two.back(), 3);
        due("SECRET ones", two.told(1), 3);
        leavesNone();
    }

    private static void leavesNone() {
        SecretSteps x = program(3, l(SET, 0, 1, 0));
        int had = left(x);
        x.line(9, 0, 0, 0);
        x.drops(1);
        x.table(16, 0);
        x.start(6, 0);
        x.secret(6, 0);
        x.secret(5, 1);
        due("refused ones", left(x), had);
        done(x, "v0 9");
        done(x, "v0 16;");
        x.type(32);
        x.clear();
        due("texts", left(x), had);
        x.run(0, 0);
        x.sight(0, 0);
        x.parts(0, 1);
        x.leak();
        x.rows();
        x.ahead(0, 0, 0);
        x.reached(0);
        x.alarm(0);
        x.accepted();
        x.of(0, 0);
        x.told(0);
        x.digest();
        due("those that tell", left(x), had);
    }

    private static void goesBackTo() {
        says("Terms", "(all but THE TEXT and how often refused)");
        SecretSteps x = new SecretSteps();
        x.type('?');
        done(x, "l7 1 2 0;v1 9;t2 8;p3 1;");
        int bytes = x.refused(3);
        x.told(24);
        x.secret(9, 9);
        due("back", x.back(), 0);
        dueAll("LINES, SECRET ones, a START, the TABLE", new int[] {x.told(0), x.told(1), x.told(3), x.told(10)}, 0, 0, 0, 2);
        due("bytes stay", x.refused(3), bytes);
        due("BAD stays", x.refused(0), 2);
        due("NO", x.back(), NO);
        due("the text is there yet", x.does(), 4);
        dueAll("done again", new int[] {x.told(0), x.told(1), x.told(3), x.told(10)}, 1, 8, 9, 8);
        x.clear();
        due("back again", x.back(), 0);
        due("cleared stays cleared", x.refused(3), 0);
        due("NO stays", x.refused(1), 1);
    }

    private static void fiveAtMost() {
        says("Terms", "5 at most, older ones lost.");
        for (int count = 0; count <= 12; count++) {
            SecretSteps x = new SecretSteps();
            for (int v = 1; v <= count; v++) {
                x.start(0, v);
            }
            int states = Math.min(count, 5);
            due(count + " changes: STATES", left(x), states);
            for (int n = 1; n <= states; n++) {
                due(count + " changes: back " + n, x.back(), states - n);
                due(count + " changes: START, back " + n, x.told(2), count - n);
            }
            due(count + " changes: no more", x.back(), NO);
            due(count + " changes: START stays", x.told(2), count - states);
            due(count + " changes: and on from there", x.start(0, 15), count - states);
            due(count + " changes: one STATE", left(x), 1);
        }
        roundAndRound();
    }

    /** Back and on by turns, so that older ones are lost after some have been taken back. */
    private static void roundAndRound() {
        SecretSteps x = new SecretSteps();
        for (int v = 1; v <= 5; v++) {
            x.start(1, v);
        }
        due("two back", x.back() * 10 + x.back(), 43);
        for (int v = 7; v <= 10; v++) {
            x.start(1, v);
        }
        due("five again", left(x), 5);
        int[] starts = {9, 8, 7, 3, 2};
        for (int i = 0; i < 5; i++) {
            due("left", x.back(), 4 - i);
            due("START", x.told(3), starts[i]);
        }
        due("none", x.back(), NO);
    }

    // ---- refused calls

    private static void theFirstOf() {
        says("Terms", "the first of: BAD -2 a number is not as told; NO -3, FULL -4 as told.");
        due("BAD", SecretSteps.BAD, -2);
        due("NO", SecretSteps.NO, -3);
        due("FULL", SecretSteps.FULL, -4);
        SecretSteps lines = idle(20);
        due("line: BAD and FULL", lines.line(SET, 0, 16, 0), BAD);
        due("line: FULL alone", lines.line(SET, 0, 15, 0), FULL);
        SecretSteps two = program(3);
        due("secret: BAD and FULL", two.secret(2, 2), BAD);
        due("secret: BAD x and FULL", two.secret(6, 1), BAD);
        due("secret: FULL alone", two.secret(2, 1), FULL);
        SecretSteps loop = program(0, l(SET, 0, 1, 0), l(JUMP, 0, 0, 0));
        due("ahead: BAD x and NO", loop.ahead(2, 6, 0), BAD);
        due("ahead: BAD what and NO", loop.ahead(2, 5, 2), BAD);
        due("ahead: NO alone", loop.ahead(2, 5, 1), NO);
        SecretSteps text = new SecretSteps();
        type(text, blanks(MOST_BYTES));
        due("type: BAD and FULL", text.type(128), BAD);
        due("type: FULL alone", text.type(127), FULL);
        due("each counts once", text.refused(0) * 10 + text.refused(2), 11);
    }

    /** Each call that can be refused, with numbers just outside: how often each is counted, and that nothing else becomes other. */
    private static void changesNothing() {
        says("Terms", "Refused (any call, getters, too), changing nothing but how often");
        SecretSteps x = program(3, l(SET, 0, 1, 0), l(JUMP, 0, 0, 0));
        x.start(3, 7);
        type(x, "v0");
        int[] before = all(x);
        int[] bad = {
            x.line(SET, 0, 16, 0), x.drops(2), x.table(0, 16), x.start(0, 16), x.secret(0, 2), x.run(256, 0), x.run(0, 9), x.sight(0, -1), x.sight(256, 0),
            x.parts(0, 256), x.parts(256, 0), x.ahead(3, 0, 0), x.reached(3), x.alarm(-1), x.of(2, 0), x.of(0, 4), x.told(24), x.type(128), x.refused(5)};
        for (int i = 0; i < bad.length; i++) {
            due("BAD [" + i + "]", bad[i], BAD);
        }
        due("NO", x.ahead(2, 0, 0), NO);
        due("FULL", x.secret(5, 1), FULL);
        dueAll("how often", new int[] {x.refused(0), x.refused(1), x.refused(2)}, bad.length, 1, 1);
        dueAll("as it was", all(x), before);
        due("as it was: back", x.back(), 4);
        dueAll("as it was ahead of the last change", new int[] {x.told(5), x.told(0), x.told(1)}, 0, 2, 3);
        due("THE TEXT is as it was", x.does(), fault(2));
    }

    private static void countsByDoes() {
        says("Terms", "By does() nothing counts (by type() as by any call).");
        SecretSteps x = program(3);
        due("a FAULT", done(x, ""), fault(0));
        due("an ORDER that is BAD", done(x, "v0 16;"), ends(0));
        due("an ORDER that is FULL", done(x, "p2 1;"), ends(0));
        due("an ORDER that is done", done(x, "p0 1;"), 1);
        dueAll("nothing counts", new int[] {x.refused(0), x.refused(1), x.refused(2)}, 0, 0, 0);
        due("type(-1)", x.type(-1), BAD);
        due("type(128)", x.type(128), BAD);
        due("BAD counts", x.refused(0), 2);
        x.clear();
        type(x, blanks(MOST_BYTES));
        due("a byte too many", x.type(32), FULL);
        due("FULL counts", x.refused(2), 1);
        due("a FAULT of 120 blanks", x.does(), fault(120));
        dueAll("no more", new int[] {x.refused(0), x.refused(1), x.refused(2)}, 2, 0, 1);
    }

    private static void lastCall() {
        says("What it is", "An object is used for at most 512 calls after it has been made;");
        SecretSteps x = new SecretSteps();
        for (int call = 1; call < 512; call++) {
            x.told(-1);
        }
        due("the 512th call", x.refused(0), 511);
        SecretSteps y = new SecretSteps();
        for (int call = 1; call < 512; call++) {
            y.start(0, call % 16);
        }
        due("the 512th call is told S", y.start(0, 1), 15);
    }

    public static void main(String[] args) {
        length();
        orders();
        figures();
        blanksInIt();
        readWhole();
        faults();
        endsTooEarly();
        nothingDoneByAFault();
        eachCallLeavesOne();
        goesBackTo();
        fiveAtMost();
        theFirstOf();
        changesNothing();
        countsByDoes();
        lastCall();
        endAll("TextBoundariesTest");
    }
}
