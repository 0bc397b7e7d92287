/**
 * The boundary cases under "Terms", sentence by sentence: at the boundary and one number to either side. What is said of
 * texts and STATES is in TextBoundariesTest.
 */
public final class TermBoundariesTest extends BoundaryRows {
    private static final int MOST_STEPS = 60;

    // ---- variables, table, lines

    private static void variables() {
        says("Terms", "5, each PUBLIC or SECRET");
        SecretSteps x = new SecretSteps();
        int[] numbers = {-1, 0, 5, 6};
        for (int v : numbers) {
            int want = v == 0 || v == 5 ? 0 : BAD;
            due("start(" + v + ", 1)", x.start(v, 1), want);
            due("secret(" + v + ", 1)", x.secret(v, 1), want);
            due("ahead(0, " + v + ", 0)", x.ahead(0, v, 0), want == BAD ? BAD : 1);
        }
        dueAll("STARTS, SECRET ones", new int[] {x.told(2), x.told(7), x.told(1)}, 1, 1, 33);
    }

    private static void secretOnes() {
        says("Terms", "each PUBLIC or SECRET (PUBLIC at first; never more than 2 SECRET)");
        due("new: told(1)", new SecretSteps().told(1), 0);
        for (int a = 0; a < 6; a++) {
            for (int b = 0; b < 6; b++) {
                if (a != b) {
                    thirdBeside(a, b);
                }
            }
        }
        due("two by orders", doneNew("p0 1;p5 1;"), 2);
        due("three by orders", doneNew("p0 1;p5 1;p2 1;"), ends(2));
        due("a third in the place of a first", doneNew("p0 1;p5 1;p0 0;p2 1;"), 4);
    }

    private static void thirdBeside(int a, int b) {
        SecretSteps x = new SecretSteps();
        int both = 1 << a | 1 << b;
        due("first", x.secret(a, 1), 0);
        due("one: told(1)", x.told(1), 1 << a);
        due("second", x.secret(b, 1), 0);
        due("two: told(1)", x.told(1), both);
        for (int c = 0; c < 6; c++) {
            boolean third = c != a && c != b;
            due("secret(" + c + ", 1) beside " + both, x.secret(c, 1), third ? FULL : 1);
            due("still two: told(1)", x.told(1), both);
            if (third) {
                due("a third stays PUBLIC: secret(" + c + ", 0)", x.secret(c, 0), 0);
                due("two beside it: told(1)", x.told(1), both);
            }
        }
        due("a third of four, each once", x.refused(2), 4);
        due("one goes", x.secret(a, 0), 1);
        int c = a == 0 || b == 0 ? a == 1 || b == 1 ? 2 : 1 : 0;
        due("another comes", x.secret(c, 1), 0);
        due("two again: told(1)", x.told(1), 1 << b | 1 << c);
        due("now the first is a third", x.secret(a, 1), FULL);
    }

    private static void starts() {
        says("Terms", "each with a START 0 .. 15 (0 at first)");
        SecretSteps x = new SecretSteps();
        for (int v = 0; v < 6; v++) {
            due("at first told(" + (2 + v) + ")", x.told(2 + v), 0);
            due("start(x, -1)", x.start(v, -1), BAD);
            due("start(x, 0)", x.start(v, 0), 0);
            due("start(x, 1)", x.start(v, 1), 0);
            due("start(x, 15)", x.start(v, 15), 1);
            due("start(x, 16)", x.start(v, 16), BAD);
            due("stays told(" + (2 + v) + ")", x.told(2 + v), 15);
            due("start(x, 14)", x.start(v, 14), 15);
        }
        due("twelve BAD", x.refused(0), 12);
    }

    private static void tableNumbers() {
        says("Terms", "A TABLE of 16 numbers 0 .. 15 (number i at first at place i).");
        SecretSteps x = new SecretSteps();
        for (int i = 0; i < 16; i++) {
            due("at first told(" + (8 + i) + ")", x.told(8 + i), i);
            due("table(i, -1)", x.table(i, -1), BAD);
            due("table(i, 0)", x.table(i, 0), i);
            due("table(i, 1)", x.table(i, 1), 0);
            due("table(i, 15)", x.table(i, 15), 1);
            due("table(i, 16)", x.table(i, 16), BAD);
            due("stays told(" + (8 + i) + ")", x.told(8 + i), 15);
            due("table(i, 14)", x.table(i, 14), 15);
        }
        due("no place -1", x.table(-1, 0), BAD);
        due("no place 16", x.table(16, 0), BAD);
    }

    private static void lineCount() {
        says("Terms", "LINES 0 on, as they come (never more than 20)");
        SecretSteps x = new SecretSteps();
        due("none: told(0)", x.told(0), 0);
        for (int i = 0; i < 20; i++) {
            due("LINE " + i, x.line(SET, i % 6, i % 16, 0), i);
            due("told(0)", x.told(0), i + 1);
        }
        due("a 21st", x.line(SET, 0, 0, 0), FULL);
        due("still 20: told(0)", x.told(0), 20);
        due("as they came: of(18, 2)", x.of(18, 2), 2);
        due("as they came: of(19, 2)", x.of(19, 2), 3);
        due("no LINE 20", x.of(20, 0), BAD);
        due("one goes", x.drops(7), 19);
        due("the 20th again", x.line(PICK, 1, 2, 3), 19);
        due("a 21st again", x.line(PICK, 1, 2, 3), FULL);
        due("the 20th by an order", done(idle(19), "l0 0 0 0;"), 1);
        due("a 21st by an order", done(idle(19), "l0 0 0 0;l0 0 0 0;"), ends(1));
        due("one goes, one comes by orders", done(idle(20), "d19;l0 0 0 0;"), 2);
    }

    // ---- kinds

    private static void kinds() {
        says("Terms", "each of a KIND, of x, y, z:");
        SecretSteps x = new SecretSteps();
        due("KIND -1", x.line(-1, 0, 0, 0), BAD);
        for (int k = 0; k < 9; k++) {
            due("KIND " + k, x.line(k, 0, 0, 0), k);
            due("of(k, 0)", x.of(k, 0), k);
        }
        due("KIND 9", x.line(9, 0, 0, 0), BAD);
        due("nine", x.told(0), 9);
    }

    /** VARIABLE 0 at the end of a RUN of one LINE, with VARIABLES 0, 1 and 2 of these STARTS. */
    private static int becomes(int[] row, int a, int b, int c) {
        SecretSteps x = program(0, row);
        x.start(0, a);
        x.start(1, b);
        x.start(2, c);
        return x.run(0, 3);
    }

    private static void setAndMove() {
        says("Terms", "0 SET: x becomes the number y (0 .. 15).");
        for (int v = 0; v < 6; v++) {
            SecretSteps x = new SecretSteps();
            x.start(v, 7);
            due("y -1", x.line(SET, v, -1, 0), BAD);
            due("y 16", x.line(SET, v, 16, 0), BAD);
            due("y 0", x.line(SET, v, 0, 0), 0);
            due("becomes 0", x.run(0, 3 + v), 0);
            due("y 15", x.line(SET, v, 15, 0), 1);
            due("becomes 15", x.run(0, 3 + v), 15);
        }
        says("Terms", "1 MOVE: x becomes y.");
        due("0", becomes(l(MOVE, 0, 1, 0), 15, 0, 9), 0);
        due("15", becomes(l(MOVE, 0, 1, 0), 0, 15, 9), 15);
        due("itself", becomes(l(MOVE, 0, 0, 0), 6, 15, 9), 6);
    }

    private static void addAndBits() {
        says("Terms", "2 ADD: x + y, by 16 left over.");
        int[][] sums = {{0, 0, 0}, {0, 15, 15}, {8, 7, 15}, {15, 0, 15}, {1, 15, 0}, {8, 8, 0}, {15, 1, 0}, {2, 15, 1}, {15, 2, 1}, {15, 14, 13}, {15, 15, 14}};
        for (int[] s : sums) {
            due(s[0] + " + " + s[1], becomes(l(ADD, 0, 1, 0), s[0], s[1], 0), s[2]);
        }
        due("7 to itself", becomes(l(ADD, 0, 0, 0), 7, 0, 0), 14);
        due("8 to itself", becomes(l(ADD, 0, 0, 0), 8, 0, 0), 0);
        due("9 to itself", becomes(l(ADD, 0, 0, 0), 9, 0, 0), 2);
        says("Terms", "3 AND: bit by bit. 4 XOR: bit by bit.");
        int[][] pairs = {{0, 0, 0, 0}, {0, 15, 0, 15}, {15, 0, 0, 15}, {15, 15, 15, 0}, {12, 10, 8, 6}, {1, 1, 1, 0}, {8, 7, 0, 15}, {7, 8, 0, 15}, {9, 8, 8, 1}};
        for (int[] p : pairs) {
            due(p[0] + " AND " + p[1], becomes(l(AND, 0, 1, 0), p[0], p[1], 0), p[2]);
            due(p[0] + " XOR " + p[1], becomes(l(XOR, 0, 1, 0), p[0], p[1], 0), p[3]);
        }
        due("AND itself", becomes(l(AND, 0, 0, 0), 13, 0, 0), 13);
        due("XOR itself", becomes(l(XOR, 0, 0, 0), 13, 0, 0), 0);
    }

    private static void loadAndDivide() {
        says("Terms", "5 LOAD: x becomes what the TABLE has at place y.");
        for (int i = 0; i < 16; i++) {
            SecretSteps x = program(0, l(LOAD, 0, 1, 0));
            x.start(1, i);
            due("place " + i, x.run(0, 3), i);
            x.table(i, 15 - i);
            due("place " + i + " changed", x.run(0, 3), 15 - i);
            x.table((i + 1) % 16, 5);
            x.table((i + 15) % 16, 6);
            due("the places beside " + i + " do not matter", x.run(0, 3), 15 - i);
        }
        due("its own place", becomes(l(LOAD, 0, 0, 0), 15, 0, 0), 15);
        says("Terms", "6 DIVIDE: x by y, cut; by 0: 15.");
        int[][] parts = {
            {0, 0, 15}, {1, 0, 15}, {14, 0, 15}, {15, 0, 15}, {0, 1, 0}, {1, 1, 1}, {15, 1, 15}, {15, 15, 1}, {14, 15, 0}, {15, 14, 1}, {0, 15, 0},
            {15, 8, 1}, {15, 7, 2}, {14, 7, 2}, {13, 7, 1}, {7, 7, 1}, {6, 7, 0}};
        for (int[] p : parts) {
            due(p[0] + " by " + p[1], becomes(l(DIVIDE, 0, 1, 0), p[0], p[1], 0), p[2]);
        }
        due("0 by itself", becomes(l(DIVIDE, 0, 0, 0), 0, 3, 3), 15);
        due("1 by itself", becomes(l(DIVIDE, 0, 0, 0), 1, 3, 3), 1);
        due("15 by itself", becomes(l(DIVIDE, 0, 0, 0), 15, 3, 3), 1);
    }

    private static void jumpAndPick() {
        says("Terms", "7 JUMP: if x is not 0, LINE y is next (y 0 .. 20).");
        SecretSteps x = new SecretSteps();
        due("y -1", x.line(JUMP, 0, -1, 0), BAD);
        due("y 0", x.line(JUMP, 0, 0, 0), 0);
        due("y 1", x.line(JUMP, 0, 1, 0), 1);
        due("y 19", x.line(JUMP, 0, 19, 0), 2);
        due("y 20", x.line(JUMP, 0, 20, 0), 3);
        due("y 21", x.line(JUMP, 0, 21, 0), BAD);
        due("y 20 by an order", doneNew("l7 0 20 0;"), 1);
        due("y 21 by an order", doneNew("l7 0 21 0;"), ends(0));
        int[] steps = {3, 2, 2};
        int[] of = {0, 1, 15};
        for (int i = 0; i < 3; i++) {
            SecretSteps jumps = program(0, l(JUMP, 0, 2, 0), l(SET, 1, 9, 0), l(SET, 2, 9, 0));
            jumps.start(0, of[i]);
            due("STEPS, x " + of[i], jumps.run(0, 0), steps[i]);
            due("the next one done, x " + of[i], jumps.run(0, 4), of[i] == 0 ? 9 : 0);
            due("LINE y done, x " + of[i], jumps.run(0, 5), 9);
            due("x stays " + of[i], jumps.run(0, 3), of[i]);
        }
        jumpsInTwenty();
        says("Terms", "8 PICK: x becomes y, if x is not 0, else z.");
        due("x 0", becomes(l(PICK, 0, 1, 2), 0, 0, 15), 15);
        due("x 1", becomes(l(PICK, 0, 1, 2), 1, 0, 15), 0);
        due("x 15", becomes(l(PICK, 0, 1, 2), 15, 2, 3), 2);
        due("x 0, z itself", becomes(l(PICK, 0, 1, 0), 0, 7, 8), 0);
        due("x 4, y itself", becomes(l(PICK, 0, 0, 2), 4, 7, 8), 4);
        due("x 0, y itself", becomes(l(PICK, 0, 0, 2), 0, 7, 8), 8);
        due("x 4, z itself", becomes(l(PICK, 0, 1, 0), 4, 7, 8), 7);
    }

    /** LINE 0 jumps; LINES 17, 18 and 19 each set a VARIABLE. */
    private static void jumpsInTwenty() {
        int[][] wants = {{18, 3, 0, 9, 9}, {19, 2, 0, 0, 9}, {20, 1, 0, 0, 0}, {17, 4, 9, 9, 9}, {1, 20, 9, 9, 9}};
        for (int[] want : wants) {
            SecretSteps x = program(0, l(JUMP, 0, want[0], 0));
            x.start(0, 1);
            for (int i = 1; i < 20; i++) {
                add(x, i < 17 ? LOOKS_AT_NOTHING : l(SET, i - 16, 9, 0));
            }
            due("to " + want[0] + " of twenty: STEPS", x.run(0, 0), want[1]);
            for (int v = 1; v <= 3; v++) {
                due("to " + want[0] + ": VARIABLE " + v, x.run(0, 3 + v), want[1 + v]);
            }
            due("to " + want[0] + ": not CUT", x.run(0, 1), 0);
        }
        SecretSteps to0 = program(0, l(ADD, 0, 1, 0), l(JUMP, 0, 0, 0));
        to0.start(0, 14);
        to0.start(1, 1);
        due("to LINE 0: STEPS", to0.run(0, 0), 4);
    }

    private static void whatAKindHas() {
        says("Terms", "(x, y, z are VARIABLES, but y of 0 and 7; what a KIND does not have is 0: z of 0 to 7.)");
        for (int k = 0; k < 9; k++) {
            SecretSteps x = new SecretSteps();
            due("KIND " + k + ": x -1", x.line(k, -1, 0, 0), BAD);
            due("KIND " + k + ": x 6", x.line(k, 6, 0, 0), BAD);
            due("KIND " + k + ": x 0", x.line(k, 0, 0, 0), 0);
            due("KIND " + k + ": x 5", x.line(k, 5, 0, 0), 1);
            boolean freeY = k == SET || k == JUMP;
            due("KIND " + k + ": y -1", x.line(k, 0, -1, 0), BAD);
            due("KIND " + k + ": y 5", x.line(k, 0, 5, 0), 2);
            due("KIND " + k + ": y 6", x.line(k, 0, 6, 0), freeY ? 3 : BAD);
            int count = x.told(0);
            due("KIND " + k + ": z -1", x.line(k, 0, 0, -1), BAD);
            due("KIND " + k + ": z 1", x.line(k, 0, 0, 1), k == PICK ? count : BAD);
            due("KIND " + k + ": z 5", x.line(k, 0, 0, 5), k == PICK ? count + 1 : BAD);
            due("KIND " + k + ": z 6", x.line(k, 0, 0, 6), BAD);
            due("KIND " + k + ": z 0", x.line(k, 0, 0, 0), k == PICK ? count + 2 : count);
        }
    }

    // ---- runs

    private static void secretsOfARun() {
        says("Terms", "a number, 4 bits of each, those of the SECRET VARIABLE with the least number lowest.");
        for (int a = 0; a < 6; a++) {
            for (int b = a + 1; b < 6; b++) {
                SecretSteps x = new SecretSteps();
                x.start(a, 6);
                x.secret(b, 1);
                x.secret(a, 1);
                int[][] wants = {{0, 0, 0}, {1, 1, 0}, {15, 15, 0}, {16, 0, 1}, {17, 1, 1}, {239, 15, 14}, {240, 0, 15}, {254, 14, 15}, {255, 15, 15}};
                for (int[] want : wants) {
                    due("by " + want[0] + " the least", x.run(want[0], 3 + a), want[1]);
                    due("by " + want[0] + " the other", x.run(want[0], 3 + b), want[2]);
                }
            }
        }
        says("Terms", "A RUN: VARIABLES are their START, SECRET ones what the SECRETS tell:");
        SecretSteps x = program(1 << 3);
        x.start(3, 9);
        x.start(2, 15);
        due("a PUBLIC one", x.run(0, 5), 15);
        due("a PUBLIC one of 0", x.run(15, 7), 0);
        due("a SECRET one by 0", x.run(0, 6), 0);
        due("a SECRET one by 15", x.run(15, 6), 15);
        x.secret(3, 0);
        due("PUBLIC again", x.run(0, 6), 9);
    }

    private static void orderOfLines() {
        says("Terms", "LINE 0 first, then the next one, or that of a JUMP;");
        SecretSteps x = program(0, set(0, 3), l(ADD, 0, 0, 0), set(1, 9), l(ADD, 0, 1, 0));
        due("each in its turn", x.run(0, 3), 15);
        due("each once", x.run(0, 0), 4);
        SecretSteps back = program(0, l(JUMP, 0, 2, 0), l(JUMP, 1, 3, 0), l(JUMP, 1, 1, 0), set(2, 5));
        back.start(0, 1);
        back.start(1, 1);
        due("on, back, on: STEPS", back.run(0, 0), 4);
        int[] sights = {501, 505, 503, 604, NONE};
        for (int i = 0; i < sights.length; i++) {
            due("on, back, on: SIGHT " + i, back.sight(0, i), sights[i]);
        }
        says("Terms", "SIGHTS, as they come:");
        SecretSteps all = program(0, l(DIVIDE, 0, 0, 0), l(LOAD, 1, 0, 0), l(JUMP, 1, 4, 0), l(LOAD, 1, 2, 0), l(LOAD, 2, 2, 0), l(DIVIDE, 2, 1, 0));
        // 0 by 0 is 15, place 15 has 15, LINE 3 is jumped over
        int[] seen = {200, 115, 505, 100, 215, 605, NONE};
        for (int i = 0; i < seen.length; i++) {
            due("SIGHT " + i, all.sight(0, i), seen[i]);
        }
        due("SIGHTS", all.run(0, 2), 6);
    }

    private static void endOfARun() {
        says("Terms", "it ends behind the last LINE (each LINE that is not there is behind it)");
        for (int count = 0; count <= 20; count += count == 2 ? 17 : 1) {
            SecretSteps x = idle(count);
            due(count + " LINES: STEPS", x.run(0, 0), count);
            due(count + " LINES: not CUT", x.run(0, 1), 0);
        }
        // LINE 0 of three jumps to the last LINE, behind it, and to LINES that are not there
        int[][] wants = {{1, 3}, {2, 2}, {3, 1}, {4, 1}, {19, 1}, {20, 1}};
        for (int[] want : wants) {
            SecretSteps x = program(0, l(JUMP, 0, want[0], 0), LOOKS_AT_NOTHING, LOOKS_AT_NOTHING);
            x.start(0, 1);
            due("a JUMP to " + want[0] + " of three: STEPS", x.run(0, 0), want[1]);
            due("a JUMP to " + want[0] + " of three: not CUT", x.run(0, 1), 0);
            due("a JUMP to " + want[0] + " of three: the end", x.sight(0, x.run(0, 2) - 1), 600 + want[1]);
        }
    }

    /** 14 rounds of 4 LINES, then the rows of the tail: the first of the tail is STEP 57. VARIABLE 1 is 1. */
    private static SecretSteps longRun(int[]... tail) {
        SecretSteps x = program(0, LOOKS_AT_NOTHING, LOOKS_AT_NOTHING, l(ADD, 0, 1, 0), l(JUMP, 0, 0, 0));
        x.start(0, 2);
        x.start(1, 1);
        for (int[] row : tail) {
            add(x, row);
        }
        return x;
    }

    private static void lengthIs(String name, SecretSteps x, int steps, int cut) {
        due(name + ": STEPS", x.run(0, 0), steps);
        due(name + ": CUT", x.run(0, 1), cut);
        due(name + ": the end", x.sight(0, x.run(0, 2) - 1), 600 + steps);
    }

    private static void cutRuns() {
        says("Terms", "or behind 60 STEPS (LINES done; it is CUT then, if there is a next LINE)");
        int[] n = LOOKS_AT_NOTHING;
        int[] sets = l(SET, 2, 9, 0);
        lengthIs("58", longRun(n, n), 58, 0);
        lengthIs("59", longRun(n, n, n), 59, 0);
        lengthIs("60", longRun(n, n, n, n), 60, 0);
        lengthIs("61 are not done", longRun(n, n, n, n, n), 60, 1);
        due("the 60th is done", longRun(n, n, n, sets, n).run(0, 5), 9);
        due("the 61st is not", longRun(n, n, n, n, sets).run(0, 5), 0);
        lengthIs("the 60th jumps behind the last", longRun(n, n, n, l(JUMP, 1, 8, 0)), 60, 0);
        lengthIs("the 60th jumps far behind the last", longRun(n, n, n, l(JUMP, 1, 20, 0), n), 60, 0);
        lengthIs("the 60th jumps to the last", longRun(n, n, n, l(JUMP, 1, 8, 0), n), 60, 1);
        lengthIs("the 60th jumps to LINE 0", longRun(n, n, n, l(JUMP, 1, 0, 0)), 60, 1);
        lengthIs("the 60th does not jump, nothing is next", longRun(n, n, n, l(JUMP, 2, 0, 0)), 60, 0);
        lengthIs("the 60th does not jump, one is next", longRun(n, n, n, l(JUMP, 2, 20, 0), n), 60, 1);
        lengthIs("the 59th jumps behind the last", longRun(n, n, l(JUMP, 1, 20, 0), n), 59, 0);
        SecretSteps round = program(0, l(JUMP, 0, 0, 0));
        due("one that is 0: STEPS", round.run(0, 0), 1);
        round.start(0, 1);
        lengthIs("round and round", round, MOST_STEPS, 1);
        due("SIGHTS", round.run(0, 2), MOST_STEPS + 1);
    }

    private static int firstSight(int[] row, int a, int b) {
        SecretSteps x = program(0, row);
        x.start(0, a);
        x.start(1, b);
        return x.sight(0, 0);
    }

    private static void sights() {
        says("Terms", "of a LOAD 100 and the place;");
        due("place 0", firstSight(l(LOAD, 0, 1, 0), 5, 0), 100);
        due("place 1", firstSight(l(LOAD, 0, 1, 0), 5, 1), 101);
        due("place 15", firstSight(l(LOAD, 0, 1, 0), 5, 15), 115);
        SecretSteps own = program(0, l(LOAD, 0, 0, 0));
        own.table(0, 15);
        due("the place, as it was ahead of the LOAD", own.sight(0, 0), 100);
        says("Terms", "of a DIVIDE 200, 16 times x and y;");
        int[][] divides = {{0, 0, 200}, {0, 1, 201}, {0, 15, 215}, {1, 0, 216}, {14, 15, 439}, {15, 0, 440}, {15, 14, 454}, {15, 15, 455}};
        for (int[] d : divides) {
            due(d[0] + " by " + d[1], firstSight(l(DIVIDE, 0, 1, 0), d[0], d[1]), d[2]);
        }
        due("itself, as it was", firstSight(l(DIVIDE, 0, 0, 0), 7, 1), 319);
        says("Terms", "of a JUMP 500, 2 times its LINE, and 1 if it jumps;");
        due("LINE 0, x 0", firstSight(l(JUMP, 0, 1, 0), 0, 0), 500);
        due("LINE 0, x 1", firstSight(l(JUMP, 0, 1, 0), 1, 0), 501);
        due("LINE 0, x 15", firstSight(l(JUMP, 0, 20, 0), 15, 0), 501);
        SecretSteps late = idle(18);
        late.line(JUMP, 0, 19, 0);
        late.line(JUMP, 0, 20, 0);
        due("LINE 18, x 0", late.sight(0, 0), 536);
        due("LINE 19, x 0", late.sight(0, 1), 538);
        late.start(0, 1);
        due("LINE 18, x 1", late.sight(0, 0), 537);
        due("LINE 19, x 1", late.sight(0, 1), 539);
        says("Terms", "at the end 600 and the STEPS.");
        for (int count = 0; count <= 20; count++) {
            SecretSteps x = idle(count);
            due(count + " STEPS", x.sight(0, 0), 600 + count);
            due(count + " STEPS, nothing else", x.sight(0, 1), NONE);
        }
        due("59 STEPS", longRun(l(SET, 2, 1, 0), l(ADD, 2, 2, 0), l(AND, 2, 2, 0)).sight(0, 14), 659);
        due("60 STEPS", longRun(l(XOR, 2, 2, 0), l(PICK, 2, 1, 0), l(MOVE, 2, 1, 0), l(SET, 2, 1, 0)).sight(0, 14), 660);
        due("60 STEPS, CUT", longRun(l(XOR, 2, 2, 0), l(PICK, 2, 1, 0), l(MOVE, 2, 1, 0), l(SET, 2, 1, 0), l(SET, 2, 1, 0)).sight(0, 14), 660);
    }

    // ---- parts, leaks

    private static void partings() {
        says("Terms", "two RUNS part at the least i of which SIGHT i is not alike, or only one has a SIGHT i.");
        SecretSteps x = program(1, l(LOAD, 1, 0, 0), l(LOAD, 2, 0, 0));
        due("SIGHT 0, and others behind it", x.parts(4, 5), 0);
        due("none", x.parts(5, 5), NONE);
        SecretSteps second = program(1, l(LOAD, 2, 1, 0), l(LOAD, 2, 0, 0));
        due("SIGHT 1", second.parts(0, 15), 1);
        SecretSteps third = program(1, l(LOAD, 2, 1, 0), l(LOAD, 2, 1, 0), l(LOAD, 2, 0, 0));
        due("SIGHT 2", third.parts(0, 15), 2);
        SecretSteps longer = program(1, l(JUMP, 0, 20, 0), l(LOAD, 1, 1, 0));
        due("the shorter: SIGHTS", longer.run(1, 2), 2);
        due("the longer: SIGHTS", longer.run(0, 2), 3);
        due("only the longer has SIGHT 2", longer.sight(1, 2), NONE);
        due("it has", longer.sight(0, 2), 602);
        due("they part at the JUMP", longer.parts(0, 1), 0);
        due("the longer one second", longer.parts(1, 0), 0);
        due("both shorter", longer.parts(1, 15), NONE);
        lastSights();
    }

    /** Each of 60 STEPS has a SIGHT: the LOAD of a SECRET one is the 60th, then it would be the 61st. */
    private static void lastSights() {
        SecretSteps x = program(32, l(LOAD, 1, 1, 0), l(LOAD, 3, 3, 0), l(LOAD, 3, 3, 0), l(JUMP, 1, 0, 0));
        for (int i = 0; i < 16; i++) {
            x.table(i, (i + 1) % 16);
        }
        // VARIABLE 1 becomes 3, 4 .. 15, 0: 14 rounds of 4 SIGHTS
        x.start(1, 2);
        int[] n = l(LOAD, 4, 4, 0);
        add(x, n);
        add(x, n);
        add(x, n);
        x.line(LOAD, 2, 5, 0);
        due("the last but the end: SIGHTS", x.run(0, 2), 61);
        due("the last but the end: parts", x.parts(0, 1), 59);
        due("the last but the end: leak", x.leak(), 1);
        due("the last but the end: rows", x.rows(), 16);
        x.drops(7);
        add(x, n);
        x.line(LOAD, 2, 5, 0);
        due("cut ahead of it: SIGHTS", x.run(0, 2), 61);
        due("cut ahead of it: parts", x.parts(0, 1), NONE);
        due("cut ahead of it: leak", x.leak(), NONE);
        due("cut ahead of it: rows", x.rows(), 1);
    }

    private static void leaks() {
        says("Terms", "LEAK: some SECRETS (below 16 to the power of how many SECRET ones there are) whose RUN parts from that of SECRETS 0; the least of these is the OTHER.");
        due("no SECRET one", program(0, l(LOAD, 1, 0, 0), l(JUMP, 2, 0, 0)).leak(), NONE);
        due("one SECRET one, not looked at", program(1, l(LOAD, 1, 1, 0)).leak(), NONE);
        due("OTHER 1", program(1, l(LOAD, 1, 0, 0)).leak(), 1);
        due("OTHER 2", only(2).leak(), 2);
        due("OTHER 14", only(14).leak(), 14);
        due("OTHER 15", only(15).leak(), 15);
        due("OTHER 16", program(3, l(LOAD, 2, 1, 0)).leak(), 16);
        due("OTHER 17", twoOnly(1, 1).leak(), 17);
        due("OTHER 254", twoOnly(14, 15).leak(), 254);
        due("OTHER 255", twoOnly(15, 15).leak(), 255);
        due("OTHER 255: rows", twoOnly(15, 15).rows(), 2);
        due("OTHER 0 can not be", twoOnly(0, 0).leak(), 1);
    }

    /** Only where VARIABLE 0 is a does the JUMP not jump. */
    private static SecretSteps only(int a) {
        return program(1, set(1, a), l(XOR, 0, 1, 0), l(JUMP, 0, 20, 0));
    }

    /** Only where VARIABLE 0 is a and VARIABLE 1 is b does the JUMP not jump. */
    private static SecretSteps twoOnly(int a, int b) {
        return program(3, set(2, a), set(3, b), l(XOR, 0, 2, 0), l(XOR, 1, 3, 0), l(PICK, 0, 0, 1), l(JUMP, 0, 20, 0));
    }

    // ---- what lines tell

    private static void aheadOfLine0() {
        says("Terms", "ahead of LINE 0 each VARIABLE is TAINTED, if it is SECRET, and KNOWN by no number.");
        for (int count = 0; count < 2; count++) {
            SecretSteps x = idle(count);
            x.secret(0, 1);
            x.secret(5, 1);
            for (int v = 0; v < 6; v++) {
                due(count + " LINES: TAINTED " + v, x.ahead(0, v, 0), v == 0 || v == 5 ? 1 : 0);
                due(count + " LINES: KNOWN " + v, x.ahead(0, v, 1), NONE);
            }
            due("LINE 0 is come to", x.reached(0), 1);
        }
    }

    private static void fromLineToLine() {
        says("Terms", "From a LINE (that is come to) to each that may be next");
        // LINES 2 to 4 would make VARIABLE 1 TAINTED and come to LINE 6 with 3 not KNOWN, but are not come to
        SecretSteps x = program(32, set(0, 1), l(JUMP, 0, 5, 0), set(1, 3), l(MOVE, 1, 5, 0), l(JUMP, 2, 6, 0), set(3, 3), LOOKS_AT_NOTHING);
        int[] want = {1, 1, 0, 0, 0, 1, 1, 1};
        for (int i = 0; i < 8; i++) {
            due("LINE " + i, x.reached(i), want[i]);
        }
        due("TAINTED by none", x.ahead(7, 1, 0), 0);
        due("KNOWN by all", x.ahead(7, 3, 1), 3);
        says("Terms", "VARIABLES are as they were, but x (of a JUMP: all as they were):");
        for (int k = 0; k < 9; k++) {
            // 0 is 10, 1 is 11, 2 is 12, 3 is 13; 4 is neither; 5 is TAINTED; x is 4, y is 1
            SecretSteps y = program(32, set(0, 10), set(1, 11), set(2, 12), set(3, 13), l(k, 4, k == JUMP ? 5 : 1, k == PICK ? 2 : 0));
            for (int v = 0; v < 4; v++) {
                due("KIND " + k + ": KNOWN " + v, y.ahead(5, v, 1), 10 + v);
                due("KIND " + k + ": TAINTED " + v, y.ahead(5, v, 0), 0);
            }
            due("KIND " + k + ": x", y.ahead(5, 4, 1), k == SET ? 1 : k == MOVE || k == LOAD ? 11 : NONE);
            due("KIND " + k + ": TAINTED 5", y.ahead(5, 5, 0), 1);
        }
    }

    private static void jumpsTell() {
        says("Terms", "(of a JUMP: its y, if x is not KNOWN as 0, and the next one, if x is not KNOWN as not 0)");
        // LINE 2 jumps to LINE 4; LINE 3 jumps away to the end, by a VARIABLE that is KNOWN as 1
        int[][] wants = {{0, 0, 1}, {1, 1, 0}, {2, 1, 0}, {15, 1, 0}};
        for (int[] want : wants) {
            SecretSteps x = program(0, l(SET, 0, want[0], 0), l(SET, 1, 1, 0), l(JUMP, 0, 4, 0), l(JUMP, 1, 20, 0), LOOKS_AT_NOTHING);
            due("KNOWN as " + want[0] + ": its y", x.reached(4), want[1]);
            due("KNOWN as " + want[0] + ": the next one", x.reached(3), want[2]);
        }
        for (int secret = 0; secret < 2; secret++) {
            SecretSteps x = program(secret, l(SET, 1, 1, 0), l(JUMP, 0, 3, 0), l(JUMP, 1, 20, 0), LOOKS_AT_NOTHING);
            due("not KNOWN: its y", x.reached(3), 1);
            due("not KNOWN: the next one", x.reached(2), 1);
        }
        SecretSteps all = program(1, l(SET, 1, 9, 0), l(JUMP, 1, 2, 0));
        due("all as they were: TAINTED", all.ahead(2, 0, 0), 1);
        due("all as they were: KNOWN", all.ahead(2, 1, 1), 9);
    }

    /**
     * Of VARIABLE 0 behind the rows: 100 if TAINTED, and what it is KNOWN as. VARIABLE 5 is SECRET; the TABLE has 5 more than
     * the place, by 16 left over.
     */
    private static int told(int[]... rows) {
        SecretSteps x = program(32, rows);
        for (int i = 0; i < 16; i++) {
            x.table(i, (i + 5) % 16);
        }
        return 100 * x.ahead(rows.length, 0, 0) + x.ahead(rows.length, 0, 1);
    }

    private static int[] set(int x, int v) {
        return l(SET, x, v, 0);
    }

    private static int[] taint(int x) {
        return l(MOVE, x, 5, 0);
    }

    private static void numbersTold() {
        says("Terms", "SET: KNOWN as y, not TAINTED. MOVE: as y. ADD, DIVIDE: TAINTED, if x or y is; KNOWN, if both are, as what comes out.");
        due("SET 0", told(taint(0), set(0, 0)), 0);
        due("SET 15", told(taint(0), set(0, 15)), 15);
        due("MOVE of KNOWN 0", told(set(1, 0), l(MOVE, 0, 1, 0)), 0);
        due("MOVE of none", told(set(0, 0), l(MOVE, 0, 1, 0)), NONE);
        due("MOVE of a TAINTED one", told(taint(0)), 99);
        due("ADD 15 and 0", told(set(0, 15), set(1, 0), l(ADD, 0, 1, 0)), 15);
        due("ADD 15 and 1", told(set(0, 15), set(1, 1), l(ADD, 0, 1, 0)), 0);
        due("ADD 15 and 2", told(set(0, 15), set(1, 2), l(ADD, 0, 1, 0)), 1);
        due("ADD, x alone KNOWN", told(set(0, 0), l(ADD, 0, 1, 0)), NONE);
        due("ADD, y alone KNOWN", told(set(1, 0), l(ADD, 0, 1, 0)), NONE);
        due("ADD, x TAINTED", told(taint(0), set(1, 0), l(ADD, 0, 1, 0)), 99);
        due("ADD, y TAINTED", told(set(0, 0), l(ADD, 0, 5, 0)), 99);
        due("DIVIDE by KNOWN 0", told(set(0, 3), set(1, 0), l(DIVIDE, 0, 1, 0)), 15);
        due("DIVIDE by KNOWN 1", told(set(0, 3), set(1, 1), l(DIVIDE, 0, 1, 0)), 3);
        due("DIVIDE by KNOWN 2", told(set(0, 3), set(1, 2), l(DIVIDE, 0, 1, 0)), 1);
        due("DIVIDE of none by KNOWN 0", told(set(1, 0), l(DIVIDE, 0, 1, 0)), NONE);
        due("DIVIDE of KNOWN 0 by none", told(set(0, 0), l(DIVIDE, 0, 1, 0)), NONE);
        due("DIVIDE, x TAINTED", told(taint(0), set(1, 0), l(DIVIDE, 0, 1, 0)), 99);
        due("DIVIDE, y TAINTED", told(set(0, 0), l(DIVIDE, 0, 5, 0)), 99);
    }

    private static void bitsTold() {
        says("Terms", "XOR likewise, but of x and y the same VARIABLE: KNOWN as 0, not TAINTED.");
        due("KNOWN", told(set(0, 12), set(1, 10), l(XOR, 0, 1, 0)), 6);
        due("two KNOWN as one number", told(set(0, 12), set(1, 12), l(XOR, 0, 1, 0)), 0);
        due("the same, TAINTED", told(taint(0), l(XOR, 0, 0, 0)), 0);
        due("the same, KNOWN by none", told(l(XOR, 0, 0, 0)), 0);
        due("not the same, TAINTED both", told(taint(0), taint(1), l(XOR, 0, 1, 0)), 99);
        due("not the same, KNOWN by none", told(l(MOVE, 0, 1, 0), l(XOR, 0, 1, 0)), NONE);
        due("KNOWN as 0 and TAINTED", told(set(0, 0), l(XOR, 0, 5, 0)), 99);
        says("Terms", "AND likewise, but where one is KNOWN as 0: KNOWN as 0, not TAINTED.");
        due("x 0, y TAINTED", told(set(0, 0), l(AND, 0, 5, 0)), 0);
        due("x 1, y TAINTED", told(set(0, 1), l(AND, 0, 5, 0)), 99);
        due("x TAINTED, y 0", told(taint(0), set(1, 0), l(AND, 0, 1, 0)), 0);
        due("x TAINTED, y 1", told(taint(0), set(1, 1), l(AND, 0, 1, 0)), 99);
        due("x none, y 0", told(set(1, 0), l(AND, 0, 1, 0)), 0);
        due("x none, y 15", told(set(1, 15), l(AND, 0, 1, 0)), NONE);
        due("x 0, y none", told(set(0, 0), l(AND, 0, 1, 0)), 0);
        due("x 12, y 10", told(set(0, 12), set(1, 10), l(AND, 0, 1, 0)), 8);
        due("the same, TAINTED", told(taint(0), l(AND, 0, 0, 0)), 99);
        due("the same, KNOWN as 0", told(set(0, 0), l(AND, 0, 0, 0)), 0);
    }

    private static void loadsAndPicksTold() {
        says("Terms", "LOAD: as y is TAINTED; KNOWN, if y is, as the TABLE has.");
        due("place 0", told(taint(0), set(1, 0), l(LOAD, 0, 1, 0)), 5);
        due("place 10", told(set(1, 10), l(LOAD, 0, 1, 0)), 15);
        due("place 11", told(set(1, 11), l(LOAD, 0, 1, 0)), 0);
        due("place 15", told(set(1, 15), l(LOAD, 0, 1, 0)), 4);
        due("y KNOWN by none", told(set(0, 3), l(LOAD, 0, 1, 0)), NONE);
        due("y TAINTED", told(set(0, 3), l(LOAD, 0, 5, 0)), 99);
        says("Terms", "PICK: if x is KNOWN: as that which is picked; else TAINTED, if x, y or z is; KNOWN by no number, but if y and z are both KNOWN as one number: as that, not TAINTED.");
        due("x KNOWN as 0", told(set(0, 0), set(1, 7), set(2, 8), l(PICK, 0, 1, 2)), 8);
        due("x KNOWN as 1", told(set(0, 1), set(1, 7), set(2, 8), l(PICK, 0, 1, 2)), 7);
        due("x KNOWN as 15", told(set(0, 15), set(1, 7), set(2, 8), l(PICK, 0, 1, 2)), 7);
        due("x KNOWN as 0, z TAINTED", told(set(0, 0), set(1, 7), l(PICK, 0, 1, 5)), 99);
        due("x KNOWN as 0, y TAINTED", told(set(0, 0), set(2, 8), l(PICK, 0, 5, 2)), 8);
        due("x KNOWN as 1, z TAINTED", told(set(0, 1), set(1, 7), l(PICK, 0, 1, 5)), 7);
        due("x KNOWN as 1, y of none", told(set(0, 1), set(2, 7), l(PICK, 0, 1, 2)), NONE);
        due("x TAINTED, 7 and 7", told(taint(0), set(1, 7), set(2, 7), l(PICK, 0, 1, 2)), 7);
        due("x TAINTED, 7 and 6", told(taint(0), set(1, 7), set(2, 6), l(PICK, 0, 1, 2)), 99);
        due("x TAINTED, 7 and 8", told(taint(0), set(1, 7), set(2, 8), l(PICK, 0, 1, 2)), 99);
        due("x TAINTED, 0 and 0", told(taint(0), set(1, 0), set(2, 0), l(PICK, 0, 1, 2)), 0);
        due("x TAINTED, none and none", told(taint(0), l(PICK, 0, 1, 1)), 99);
        due("x TAINTED, 7 and none", told(taint(0), set(1, 7), l(PICK, 0, 1, 2)), 99);
        due("x of none, 7 and 8", told(set(1, 7), set(2, 8), l(PICK, 0, 1, 2)), NONE);
        due("x of none, 15 and 15", told(set(1, 15), set(2, 15), l(PICK, 0, 1, 2)), 15);
        due("x of none, y alone TAINTED", told(l(PICK, 0, 5, 2)), 99);
        due("x of none, z alone TAINTED", told(l(PICK, 0, 2, 5)), 99);
        due("none of them TAINTED", told(l(PICK, 0, 1, 2)), NONE);
    }

    private static void joinsTold() {
        says("Terms", "At a LINE that is come to from several (LINE 0 from ahead, too): TAINTED, if it is so by some; KNOWN, if by all as one number.");
        due("7 and 7", told(set(0, 7), l(JUMP, 1, 3, 0), set(0, 7)), 7);
        due("7 and 6", told(set(0, 7), l(JUMP, 1, 3, 0), set(0, 6)), NONE);
        due("7 and 8", told(set(0, 7), l(JUMP, 1, 3, 0), set(0, 8)), NONE);
        due("0 and none", told(set(0, 0), l(JUMP, 1, 3, 0), l(MOVE, 0, 2, 0)), NONE);
        due("none and 0", told(l(MOVE, 0, 2, 0), l(JUMP, 1, 3, 0), set(0, 0)), NONE);
        due("7 and TAINTED", told(set(0, 7), l(JUMP, 1, 3, 0), taint(0)), 99);
        due("TAINTED and 7", told(taint(0), l(JUMP, 1, 3, 0), set(0, 7)), 99);
        due("three: 7, 7, 7", told(set(0, 7), l(JUMP, 1, 5, 0), set(0, 7), l(JUMP, 2, 5, 0), set(0, 7)), 7);
        due("three: 7, 7, 8", told(set(0, 7), l(JUMP, 1, 5, 0), set(0, 7), l(JUMP, 2, 5, 0), set(0, 8)), NONE);
        SecretSteps x = program(32, set(0, 7), l(MOVE, 1, 5, 0), l(JUMP, 2, 0, 0));
        due("LINE 0 from ahead: KNOWN", x.ahead(0, 0, 1), NONE);
        due("LINE 0 from LINE 2: TAINTED", x.ahead(0, 1, 0), 1);
        due("LINE 0 from ahead: TAINTED", x.ahead(0, 5, 0), 1);
        due("LINE 1", x.ahead(1, 0, 1), 7);
        SecretSteps own = program(0, l(JUMP, 0, 0, 0));
        due("LINE 0 from itself and from ahead", own.ahead(0, 0, 1), NONE);
    }

    private static void askedAgain() {
        says("Terms", "The least that is so: all are asked again till nothing becomes other.");
        // LINE 1 jumps to LINE 19, each from there to the one ahead of it, LINE 2 to the end: each LINE is come to from behind
        SecretSteps x = program(0, set(0, 1), l(JUMP, 0, 19, 0), l(JUMP, 0, 20, 0));
        for (int i = 3; i < 20; i++) {
            x.line(JUMP, 0, i - 1, 0);
        }
        for (int i = 0; i <= 20; i++) {
            due("backwards: LINE " + i, x.reached(i), 1);
            due("backwards: KNOWN ahead of LINE " + i, x.ahead(i, 0, 1), i == 0 ? NONE : 1);
        }
        // a TAINT goes one VARIABLE on in each round
        SecretSteps round = program(32, l(MOVE, 0, 1, 0), l(MOVE, 1, 2, 0), l(MOVE, 2, 3, 0), l(MOVE, 3, 4, 0), l(MOVE, 4, 5, 0), l(JUMP, 0, 0, 0));
        for (int v = 0; v < 6; v++) {
            due("round: TAINTED ahead of LINE 0: " + v, round.ahead(0, v, 0), 1);
            due("round: TAINTED ahead of the end: " + v, round.ahead(6, v, 0), 1);
        }
        // 1 is KNOWN as 0 ahead of LINE 3 till 0, which it becomes, is not KNOWN any more: only then LINE 7 is come to
        SecretSteps late = program(32, set(0, 0), set(1, 0), set(2, 1),
            l(JUMP, 1, 7, 0), l(MOVE, 1, 0, 0), l(ADD, 0, 4, 0), l(JUMP, 2, 3, 0), l(MOVE, 3, 5, 0));
        due("late: LINE 7 is come to", late.reached(7), 1);
        due("late: KNOWN ahead of LINE 3", late.ahead(3, 1, 1), NONE);
        due("late: TAINTED at the end", late.ahead(8, 3, 0), 1);
        // nothing that is so only of itself: LINE 2 is come to by its own JUMP alone
        SecretSteps least = program(32, set(0, 1), l(JUMP, 0, 4, 0), l(MOVE, 1, 5, 0), l(JUMP, 2, 2, 0), LOOKS_AT_NOTHING);
        due("least: LINE 2", least.reached(2), 0);
        due("least: LINE 3", least.reached(3), 0);
        due("least: TAINTED", least.ahead(4, 1, 0), 0);
    }

    private static void theEnd() {
        says("Terms", "The end (behind the last LINE) is told as a LINE, too; a JUMP to a LINE that is not there comes to it.");
        int[] ends = {3, 4, 5, 19, 20};
        for (int y : ends) {
            // LINE 3 jumps back to itself, so only the JUMP of LINE 1 can come to the end
            SecretSteps x = program(0, set(0, 1), l(JUMP, 0, y, 0), set(1, 1), l(JUMP, 0, 3, 0));
            due("a JUMP to " + y + " of four: the end", x.reached(4), y == 3 ? 0 : 1);
            due("a JUMP to " + y + " of four: ahead of it", x.ahead(4, 0, 1), y == 3 ? NO : 1);
            due("a JUMP to " + y + " of four: LINE 3", x.reached(3), y == 3 ? 1 : 0);
        }
        for (int y = 18; y <= 20; y++) {
            SecretSteps x = program(0, set(0, 1), l(JUMP, 0, y, 0));
            for (int i = 2; i < 19; i++) {
                add(x, LOOKS_AT_NOTHING);
            }
            x.line(JUMP, 0, 19, 0);
            due("a JUMP to " + y + " of twenty: the end", x.reached(20), y == 20 ? 1 : 0);
            due("a JUMP to " + y + " of twenty: LINE 19", x.reached(19), y == 20 ? 0 : 1);
            due("behind the end", x.reached(21), BAD);
        }
        due("no LINES: the end is LINE 0", new SecretSteps().reached(0), 1);
        due("one LINE: the end", idle(1).reached(1), 1);
        due("one LINE that jumps to itself", program(0, l(JUMP, 0, 0, 0)).reached(1), 1);
    }

    private static void alarms() {
        says("Terms", "ALARM: a LINE that is come to: LOAD of a TAINTED y, DIVIDE of a TAINTED x or y, JUMP of a TAINTED x.");
        for (int k = 0; k < 9; k++) {
            due("KIND " + k + ", x TAINTED", program(1, l(k, 0, 1, 0)).alarm(0), k == DIVIDE || k == JUMP ? 0 : NONE);
            due("KIND " + k + ", y TAINTED", program(2, l(k, 0, 1, 0)).alarm(0), k == LOAD || k == DIVIDE ? 0 : NONE);
            due("KIND " + k + ", none TAINTED", program(4, l(k, 0, 1, 0)).alarm(0), NONE);
        }
        due("PICK, z TAINTED", program(4, l(PICK, 0, 1, 2)).alarm(0), NONE);
        due("JUMP to a LINE of a TAINTED one's number", program(2, l(JUMP, 0, 1, 0)).alarm(0), NONE);
        due("TAINTED no more", program(1, set(0, 1), l(JUMP, 0, 2, 0)).alarm(0), NONE);
        due("not come to", program(1, set(1, 1), l(JUMP, 1, 3, 0), l(JUMP, 0, 0, 0)).alarm(0), NONE);
        due("come to", program(1, set(1, 0), l(JUMP, 1, 3, 0), l(JUMP, 0, 0, 0)).alarm(0), 2);
    }

    public static void main(String[] args) {
        variables();
        secretOnes();
        starts();
        tableNumbers();
        lineCount();
        kinds();
        setAndMove();
        addAndBits();
        loadAndDivide();
        jumpAndPick();
        whatAKindHas();
        secretsOfARun();
        orderOfLines();
        endOfARun();
        cutRuns();
        sights();
        partings();
        leaks();
        aheadOfLine0();
        fromLineToLine();
        jumpsTell();
        numbersTold();
        bitsTold();
        loadsAndPicksTold();
        joinsTold();
        askedAgain();
        theEnd();
        alarms();
        endAll("TermBoundariesTest");
    }
}
