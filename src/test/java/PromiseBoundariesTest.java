/** The boundary cases of Promises 1 to 23, sentence by sentence: at the boundary and one number to either side. */
public final class PromiseBoundariesTest extends BoundaryRows {
    private static final int LEAST = Integer.MIN_VALUE, MOST = Integer.MAX_VALUE;

    /** LINE 0 sets, LINE 1 jumps to LINE 0 always: neither LINE 2 nor the end is come to. */
    private static SecretSteps loop() {
        return program(0, l(SET, 0, 1, 0), l(JUMP, 0, 0, 0), LOOKS_AT_NOTHING);
    }

    private static int states(SecretSteps x) {
        return x.refused(4);
    }

    private static void countsAre(SecretSteps x, int bad, int no, int full) {
        dueAll("how often refused", new int[] {x.refused(0), x.refused(1), x.refused(2)}, bad, no, full);
    }

    // ---- 1 to 6: programs

    private static void aNewObject() {
        says("Promise 1", "As told; no LINES.");
        SecretSteps x = new SecretSteps();
        int[] want = {0, 0, 0, 0, 0, 0, 0, 0, 0, 1, 2, 3, 4, 5, 6, 7, 8, 9, 10, 11, 12, 13, 14, 15, 0, 0};
        dueAll("all", all(x), want);
        countsAre(x, 0, 0, 0);
        due("no LINE 0", x.of(0, 0), BAD);
        due("nothing drops", x.drops(0), BAD);
        due("nothing to go back to", x.back(), NO);
        due("THE TEXT is empty", x.clear(), 0);
        due("no SECRETS but 0: run(0, 0)", x.run(0, 0), 0);
        due("no SECRETS but 0: run(1, 0)", x.run(1, 0), BAD);
        dueAll("leak, rows, accepted", new int[] {x.leak(), x.rows(), x.accepted()}, NONE, 1, 1);
    }

    private static void line() {
        says("Promise 2", "A new LINE behind the others: its number. S.");
        SecretSteps x = new SecretSteps();
        due("the first", x.line(SET, 0, 11, 0), 0);
        due("the second", x.line(SET, 0, 12, 0), 1);
        due("ahead of it as it was", x.of(0, 2), 11);
        due("behind the others", x.of(1, 2), 12);
        due("S", states(x), 2);
        says("Promise 2", "BAD: what its KIND does not have is not 0, too;");
        for (int k = 0; k <= 7; k++) {
            due("KIND " + k + " z -1", x.line(k, 0, 0, -1), BAD);
            due("KIND " + k + " z 0", x.line(k, 0, 0, 0), 2 + k);
            due("KIND " + k + " z 1", x.line(k, 0, 0, 1), BAD);
        }
        due("KIND 8 has z 0", x.line(PICK, 0, 0, 0), 10);
        due("KIND 8 has z 1", x.line(PICK, 0, 0, 1), 11);
        due("KIND 8 has no z 6", x.line(PICK, 0, 0, 6), BAD);
        countsAre(x, 17, 0, 0);
        for (int[] far : new int[][] {{LEAST, 0, 0, 0}, {MOST, 0, 0, 0}, {0, LEAST, 0, 0}, {0, MOST, 0, 0}, {0, 0, LEAST, 0}, {7, 0, MOST, 0}, {8, 0, 0, LEAST}, {8, 0, 0, MOST}}) {
            due("far", add(x, far), BAD);
        }
        says("Promise 2", "FULL: 20.");
        SecretSteps full = idle(19);
        due("with 19", full.line(SET, 0, 1, 0), 19);
        due("with 20", full.line(SET, 0, 1, 0), FULL);
        due("with 20 again", full.line(SET, 0, 1, 0), FULL);
        countsAre(full, 0, 0, 2);
        due("20 LINES", full.told(0), 20);
        due("one back", full.back() * 100 + full.told(0), 419);
        due("with 19 again", full.line(SET, 0, 1, 0), 19);
    }

    private static void drops() {
        says("Promise 3", "LINE i goes, those behind it are one less (JUMPS stay as told): how many are left. S.");
        for (int gone = 0; gone < 20; gone++) {
            SecretSteps x = new SecretSteps();
            for (int i = 0; i < 20; i++) {
                x.line(JUMP, i % 6, i, 0);
            }
            due("LINE " + gone + " goes", x.drops(gone), 19);
            for (int i = 0; i < 19; i++) {
                due("LINE " + gone + " gone: y of LINE " + i, x.of(i, 2), i < gone ? i : i + 1);
                due("LINE " + gone + " gone: x of LINE " + i, x.of(i, 1), (i < gone ? i : i + 1) % 6);
            }
            due("no LINE 19", x.of(19, 0), BAD);
        }
        SecretSteps one = idle(1);
        due("the only one", one.drops(0), 0);
        due("S", states(one), 2);
        due("back", one.back() * 10 + one.told(0), 11);
        says("Promise 3", "BAD.");
        for (int count = 0; count <= 20; count += count == 1 ? 19 : 1) {
            SecretSteps x = idle(count);
            due("-1 of " + count, x.drops(-1), BAD);
            due(count + " of " + count, x.drops(count), BAD);
            due("far", x.drops(MOST), BAD);
            due("far below", x.drops(LEAST), BAD);
            countsAre(x, 4, 0, 0);
            if (count > 0) {
                due("the last of " + count, x.drops(count - 1), count - 1);
                due("it is there no more", x.drops(count - 1), BAD);
            }
        }
    }

    private static void table() {
        says("Promise 4", "The TABLE has v at place i: what it had. S.");
        SecretSteps x = new SecretSteps();
        due("place 0", x.table(0, 15), 0);
        due("place 0 again", x.table(0, 15), 15);
        due("place 15", x.table(15, 0), 15);
        due("place 14", x.table(14, 1), 14);
        dueAll("TABLE", new int[] {x.told(8), x.told(9), x.told(21), x.told(22), x.told(23)}, 15, 1, 13, 1, 0);
        due("S", states(x), 4);
        due("back", x.back() * 100 + x.told(22), 314);
        says("Promise 4", "BAD.");
        for (int[] wrong : new int[][] {{-1, 0}, {16, 0}, {0, -1}, {0, 16}, {15, 16}, {16, 15}, {LEAST, 0}, {MOST, 0}, {0, LEAST}, {0, MOST}}) {
            due("table(" + wrong[0] + ", " + wrong[1] + ")", x.table(wrong[0], wrong[1]), BAD);
        }
        countsAre(x, 10, 0, 0);
        due("no S", states(x), 3);
    }

    private static void start() {
        says("Promise 5", "START of VARIABLE x becomes v: what it was. S.");
        SecretSteps x = new SecretSteps();
        due("VARIABLE 0", x.start(0, 15), 0);
        due("VARIABLE 0 again", x.start(0, 15), 15);
        due("VARIABLE 5", x.start(5, 1), 0);
        due("VARIABLE 4", x.start(4, 2), 0);
        dueAll("STARTS", new int[] {x.told(2), x.told(3), x.told(5), x.told(6), x.told(7)}, 15, 0, 0, 2, 1);
        due("S", states(x), 4);
        due("back", x.back() * 10 + x.told(6), 30);
        says("Promise 5", "BAD.");
        for (int[] wrong : new int[][] {{-1, 0}, {6, 0}, {0, -1}, {0, 16}, {5, 16}, {6, 15}, {LEAST, 0}, {MOST, 0}, {0, LEAST}, {0, MOST}}) {
            due("start(" + wrong[0] + ", " + wrong[1] + ")", x.start(wrong[0], wrong[1]), BAD);
        }
        countsAre(x, 10, 0, 0);
        due("no S", states(x), 3);
    }

    private static void secret() {
        says("Promise 6", "VARIABLE x is SECRET (b 1) or PUBLIC (0): what it was. S.");
        SecretSteps x = new SecretSteps();
        due("PUBLIC, as it was", x.secret(0, 0), 0);
        due("SECRET", x.secret(0, 1), 0);
        due("SECRET, as it was", x.secret(0, 1), 1);
        due("PUBLIC again", x.secret(0, 0), 1);
        due("S", states(x), 4);
        due("back", x.back() * 10 + x.told(1), 31);
        says("Promise 6", "BAD; FULL: two others are.");
        for (int[] wrong : new int[][] {{-1, 0}, {6, 0}, {-1, 1}, {6, 1}, {0, -1}, {0, 2}, {5, 2}, {32, 1}, {LEAST, 0}, {MOST, 0}, {0, LEAST}, {0, MOST}}) {
            due("secret(" + wrong[0] + ", " + wrong[1] + ")", x.secret(wrong[0], wrong[1]), BAD);
        }
        countsAre(x, 12, 0, 0);
        due("one other is", x.secret(5, 1), 0);
        due("two others are", x.secret(3, 1), FULL);
        due("one other is, x itself too", x.secret(0, 1), 1);
        due("x becomes no third SECRET one", x.secret(3, 0), 0);
        countsAre(x, 12, 0, 1);
        due("S of what is not refused", states(x), 5);
        due("one of the two goes", x.secret(5, 0), 1);
        due("one other is again", x.secret(3, 1), 0);
        due("bits", x.told(1), 9);
    }

    // ---- 7 to 11: runs

    private static void run() {
        says("Promise 7", "Of the RUN by SECRETS s: STEPS (what 0), whether it is CUT (1), SIGHTS (2), VARIABLES 0 to 5 at its end (3 to 8).");
        SecretSteps x = program(0, l(LOAD, 0, 5, 0), l(SET, 4, 0, 0));
        for (int v = 0; v < 6; v++) {
            x.start(v, 10 + v);
        }
        int[] want = {2, 0, 2, 15, 11, 12, 13, 0, 15};
        for (int what = 0; what < 9; what++) {
            due("what " + what, x.run(0, what), want[what]);
        }
        due("what -1", x.run(0, -1), BAD);
        due("what 9", x.run(0, 9), BAD);
        due("what far", x.run(0, MOST), BAD);
        due("what far below", x.run(0, LEAST), BAD);
        countsAre(x, 4, 0, 0);
        SecretSteps cut = program(0, l(DIVIDE, 1, 1, 0), l(JUMP, 1, 0, 0));
        dueAll("CUT", new int[] {cut.run(0, 0), cut.run(0, 1), cut.run(0, 2), cut.run(0, 4)}, 60, 1, 61, 1);
        says("Promise 7", "BAD: s below 0, not below 16 to the power of how many are SECRET, too.");
        int[] ends = {1, 16, 256};
        for (int secrets = 0; secrets <= 2; secrets++) {
            SecretSteps y = program((1 << secrets) - 1);
            due(secrets + " SECRET: s -1", y.run(-1, 0), BAD);
            due(secrets + " SECRET: s 0", y.run(0, 0), 0);
            due(secrets + " SECRET: the last s", y.run(ends[secrets] - 1, 0), 0);
            due(secrets + " SECRET: one more", y.run(ends[secrets], 0), BAD);
            due(secrets + " SECRET: far", y.run(MOST, 0), BAD);
            due(secrets + " SECRET: far below", y.run(LEAST, 0), BAD);
            countsAre(y, 4, 0, 0);
        }
        SecretSteps less = program(3);
        due("255 of two", less.run(255, 3), 15);
        less.secret(1, 0);
        due("16 of one of them", less.run(16, 3), BAD);
        due("15 of one of them", less.run(15, 3), 15);
    }

    private static void sight() {
        says("Promise 8", "SIGHT i (0 on) of the RUN by s; NONE: not so many.");
        due("no LINES: 0", new SecretSteps().sight(0, 0), 600);
        due("no LINES: 1", new SecretSteps().sight(0, 1), NONE);
        SecretSteps x = program(1, l(LOAD, 1, 0, 0), l(JUMP, 0, 0, 0));
        due("by 0: the last", x.sight(0, 2), 602);
        due("by 0: one more", x.sight(0, 3), NONE);
        due("by 15: first", x.sight(15, 0), 115);
        due("by 15: the last but one", x.sight(15, 59), 503);
        due("by 15: the last", x.sight(15, 60), 660);
        due("by 15: one more", x.sight(15, 61), NONE);
        due("by 15: far", x.sight(15, MOST), NONE);
        countsAre(x, 0, 0, 0);
        says("Promise 8", "BAD, likewise; i below 0.");
        due("s -1", x.sight(-1, 0), BAD);
        due("s 16", x.sight(16, 0), BAD);
        due("s far", x.sight(MOST, 0), BAD);
        due("s far below", x.sight(LEAST, 0), BAD);
        due("i -1", x.sight(0, -1), BAD);
        due("i far below", x.sight(0, LEAST), BAD);
        due("i 0", x.sight(0, 0), 100);
        due("both", x.sight(16, -1), BAD);
        countsAre(x, 7, 0, 0);
    }

    private static void parts() {
        says("Promise 9", "Where RUNS by s and t part; NONE: they do not.");
        SecretSteps x = program(1, l(DIVIDE, 1, 1, 0), l(DIVIDE, 0, 1, 0), l(LOAD, 2, 0, 0));
        due("0 and 1", x.parts(0, 1), 1);
        due("15 and 14", x.parts(15, 14), 1);
        due("15 and 15", x.parts(15, 15), NONE);
        due("0 and 0", x.parts(0, 0), NONE);
        x.drops(1);
        due("at SIGHT 1", x.parts(0, 15), 1);
        x.drops(0);
        due("at SIGHT 0", x.parts(0, 15), 0);
        x.drops(0);
        due("nowhere", x.parts(0, 15), NONE);
        says("Promise 9", "BAD.");
        for (int[] wrong : new int[][] {{-1, 0}, {0, -1}, {16, 0}, {0, 16}, {16, 16}, {MOST, 0}, {0, LEAST}}) {
            due("parts(" + wrong[0] + ", " + wrong[1] + ")", x.parts(wrong[0], wrong[1]), BAD);
        }
        countsAre(x, 7, 0, 0);
        x.secret(5, 1);
        due("255 of two", x.parts(255, 0), NONE);
        due("256 of two", x.parts(256, 0), BAD);
        due("256 of two, t", x.parts(0, 256), BAD);
    }

    private static void leakAndRows() {
        says("Promise 10", "OTHER; NONE: there is no LEAK.");
        due("no LINES, two SECRET", program(3).leak(), NONE);
        SecretSteps x = program(3, l(LOAD, 2, 0, 0), l(LOAD, 2, 1, 0));
        due("OTHER 1", x.leak(), 1);
        x.drops(0);
        due("OTHER 16", x.leak(), 16);
        x.secret(1, 0);
        due("it is PUBLIC now", x.leak(), NONE);
        x.back();
        due("SECRET again", x.leak(), 16);
        says("Promise 11", "How many unlike rows of SIGHTS there are by all SECRETS.");
        due("no SECRET one", program(0, l(LOAD, 1, 0, 0)).rows(), 1);
        due("one, not looked at", program(1, l(LOAD, 1, 1, 0)).rows(), 1);
        due("one, whether it is 0", program(1, l(JUMP, 0, 0, 0)).rows(), 2);
        due("one, all", program(1, l(LOAD, 1, 0, 0)).rows(), 16);
        due("two, one of them", program(3, l(LOAD, 2, 1, 0)).rows(), 16);
        due("two, their sum", program(3, l(ADD, 0, 1, 0), l(LOAD, 2, 0, 0)).rows(), 16);
        due("two, all", program(3, l(LOAD, 2, 0, 0), l(LOAD, 2, 1, 0)).rows(), 256);
        due("two, all by a DIVIDE", program(3, l(DIVIDE, 0, 1, 0)).rows(), 256);
        due("two, whether each is 0", program(3, l(JUMP, 0, 1, 0), l(JUMP, 1, 2, 0)).rows(), 4);
        due("two, whether one is 0 and all of the other", program(3, l(JUMP, 0, 2, 0), l(JUMP, 0, 0, 0), l(LOAD, 2, 1, 0)).rows(), 32);
    }

    // ---- 12 to 15: what lines tell

    private static void ahead() {
        says("Promise 12", "Of VARIABLE x ahead of LINE i (as many as LINES: the end): whether it is TAINTED (what 0), the number that it is KNOWN as (1; NONE).");
        SecretSteps x = program(32, l(SET, 0, 0, 0), l(SET, 1, 15, 0));
        due("the first, ahead of LINE 0", x.ahead(0, 0, 1), NONE);
        due("the first, ahead of LINE 1", x.ahead(1, 0, 1), 0);
        due("the second, ahead of LINE 1", x.ahead(1, 1, 1), NONE);
        due("the second, ahead of the end", x.ahead(2, 1, 1), 15);
        due("VARIABLE 5 is TAINTED", x.ahead(2, 5, 0), 1);
        due("VARIABLE 4 is not", x.ahead(2, 4, 0), 0);
        due("a TAINTED one is KNOWN by none", x.ahead(2, 5, 1), NONE);
        countsAre(x, 0, 0, 0);
        says("Promise 12", "BAD; NO: LINE i is not come to.");
        for (int[] wrong : new int[][] {{-1, 0, 0}, {3, 0, 0}, {0, -1, 0}, {0, 6, 0}, {0, 0, -1}, {0, 0, 2}, {LEAST, 0, 0}, {MOST, 0, 0}, {0, LEAST, 0}, {0, MOST, 0}, {0, 0, MOST}}) {
            due("ahead(" + wrong[0] + ", " + wrong[1] + ", " + wrong[2] + ")", x.ahead(wrong[0], wrong[1], wrong[2]), BAD);
        }
        countsAre(x, 11, 0, 0);
        SecretSteps loop = loop();
        due("LINE 1 is come to", loop.ahead(1, 0, 1), 1);
        due("LINE 2 is not", loop.ahead(2, 0, 1), NO);
        due("the end is not", loop.ahead(3, 5, 0), NO);
        due("behind the end", loop.ahead(4, 5, 0), BAD);
        countsAre(loop, 1, 2, 0);
        SecretSteps most = idle(20);
        due("the end of 20", most.ahead(20, 0, 0), 0);
        due("behind it", most.ahead(21, 0, 0), BAD);
        due("no LINES", new SecretSteps().ahead(0, 5, 1), NONE);
        due("no LINES, behind the end", new SecretSteps().ahead(1, 5, 1), BAD);
    }

    private static void reached() {
        says("Promise 13", "Whether LINE i (the end, too) is come to: 1, 0.");
        SecretSteps loop = loop();
        int[] want = {1, 1, 0, 0};
        for (int i = 0; i < 4; i++) {
            due("LINE " + i, loop.reached(i), want[i]);
        }
        loop.drops(1);
        int[] then = {1, 1, 1};
        for (int i = 0; i < 3; i++) {
            due("no JUMP: LINE " + i, loop.reached(i), then[i]);
        }
        says("Promise 13", "BAD.");
        due("-1", loop.reached(-1), BAD);
        due("behind the end", loop.reached(3), BAD);
        due("far", loop.reached(MOST), BAD);
        due("far below", loop.reached(LEAST), BAD);
        countsAre(loop, 4, 0, 0);
        due("no LINES: the end", new SecretSteps().reached(0), 1);
        due("no LINES: behind it", new SecretSteps().reached(1), BAD);
        due("20: the end", idle(20).reached(20), 1);
        due("20: behind it", idle(20).reached(21), BAD);
    }

    private static void alarm() {
        says("Promise 14", "The i-th LINE that gives the ALARM, rising; NONE: not so many.");
        SecretSteps x = program(1, LOOKS_AT_NOTHING, l(JUMP, 0, 2, 0), LOOKS_AT_NOTHING, l(LOAD, 1, 0, 0), l(DIVIDE, 2, 1, 0));
        int[] want = {1, 3, 4, NONE, NONE};
        for (int i = 0; i < want.length; i++) {
            due("alarm(" + i + ")", x.alarm(i), want[i]);
        }
        due("far", x.alarm(MOST), NONE);
        due("none of them", idle(3).alarm(0), NONE);
        due("no LINES", program(3).alarm(0), NONE);
        SecretSteps all = program(1);
        for (int i = 0; i < 20; i++) {
            all.line(LOAD, 1, 0, 0);
        }
        due("all of 20: the first", all.alarm(0), 0);
        due("all of 20: the last", all.alarm(19), 19);
        due("all of 20: one more", all.alarm(20), NONE);
        says("Promise 14", "BAD: i below 0.");
        countsAre(x, 0, 0, 0);
        due("-1", x.alarm(-1), BAD);
        due("far below", x.alarm(LEAST), BAD);
        due("0", x.alarm(0), 1);
        countsAre(x, 2, 0, 0);
    }

    private static void accepted() {
        says("Promise 15", "1: no LINE gives the ALARM; 0.");
        SecretSteps x = program(1);
        due("no LINES", x.accepted(), 1);
        x.line(PICK, 0, 1, 2);
        due("a selection", x.accepted(), 1);
        x.line(LOAD, 1, 0, 0);
        due("one gives it", x.accepted(), 0);
        x.line(JUMP, 1, 0, 0);
        due("two give it", x.accepted(), 0);
        x.secret(0, 0);
        due("nothing is SECRET", x.accepted(), 1);
        SecretSteps last = idle(19);
        last.secret(0, 1);
        due("19 that do not", last.accepted(), 1);
        last.line(JUMP, 0, 20, 0);
        due("the 20th does", last.accepted(), 0);
    }

    // ---- 16, 17: what is told

    private static void of() {
        says("Promise 16", "Of LINE i: KIND (what 0), x (1), y (2), z (3). BAD.");
        SecretSteps x = program(0, l(PICK, 5, 4, 3), l(JUMP, 1, 20, 0));
        int[][] want = {{PICK, 5, 4, 3}, {JUMP, 1, 20, 0}};
        for (int at = 0; at < 8; at++) {
            due("of(" + at / 4 + ", " + at % 4 + ")", x.of(at / 4, at % 4), want[at / 4][at % 4]);
        }
        for (int[] wrong : new int[][] {{-1, 0}, {2, 0}, {0, -1}, {0, 4}, {1, 4}, {1, -1}, {LEAST, 0}, {MOST, 0}, {0, LEAST}, {0, MOST}}) {
            due("of(" + wrong[0] + ", " + wrong[1] + ")", x.of(wrong[0], wrong[1]), BAD);
        }
        countsAre(x, 10, 0, 0);
        due("no LINES", new SecretSteps().of(0, 0), BAD);
        due("LINE 19 of 20", idle(20).of(19, 0), MOVE);
        due("LINE 20 of 20", idle(20).of(20, 0), BAD);
    }

    private static void told() {
        says("Promise 17", "LINES (what 0), SECRET ones as bits (1), START of VARIABLE 0 to 5 (2 to 7), the TABLE (8 to 23). BAD.");
        SecretSteps x = new SecretSteps();
        done(x, "l0 0 0 0;p0 1;p5 1;");
        done(x, "v0 15;v1 14;v2 13;v3 12;v4 11;v5 10;t0 9;t15 8;");
        int[] want = {1, 33, 15, 14, 13, 12, 11, 10, 9, 1, 2, 3, 4, 5, 6, 7, 8, 9, 10, 11, 12, 13, 14, 8};
        for (int what = 0; what < 24; what++) {
            due("told(" + what + ")", x.told(what), want[what]);
        }
        for (int wrong : new int[] {-1, 24, LEAST, MOST}) {
            due("told(" + wrong + ")", x.told(wrong), BAD);
        }
        countsAre(x, 4, 0, 0);
        due("none: told(0)", new SecretSteps().told(0), 0);
        due("20: told(0)", idle(20).told(0), 20);
    }

    // ---- 18 to 23: texts

    private static void typeAndClear() {
        says("Promise 18", "A byte (0 .. 127) comes behind THE TEXT: how many it has.");
        SecretSteps x = new SecretSteps();
        due("0", x.type(0), 1);
        due("1", x.type(1), 2);
        due("126", x.type(126), 3);
        due("127", x.type(127), 4);
        says("Promise 18", "BAD; FULL: 120.");
        for (int wrong : new int[] {-1, 128, 256 + 32, LEAST, MOST}) {
            due("type(" + wrong + ")", x.type(wrong), BAD);
        }
        countsAre(x, 5, 0, 0);
        due("bytes", x.refused(3), 4);
        type(x, " ".repeat(114));
        due("the 119th", x.type(32), 119);
        due("the 120th", x.type(32), 120);
        due("the 121st", x.type(32), FULL);
        due("the 121st, BAD", x.type(-1), BAD);
        countsAre(x, 6, 0, 1);
        due("no S", states(x), 0);
        says("Promise 19", "THE TEXT is empty: how many it had.");
        due("120", x.clear(), 120);
        due("none", x.clear(), 0);
        due("one comes", x.type(32), 1);
        due("1", x.clear(), 1);
        due("bytes", x.refused(3), 0);
        due("no S", states(x), 0);
        type(x, " ".repeat(119));
        due("119", x.clear(), 119);
        countsAre(x, 6, 0, 1);
    }

    private static void does() {
        says("Promise 20", "ORDERS are done (THE TEXT stays): how many. S (one STATE for all).");
        SecretSteps x = new SecretSteps();
        due("1", done(x, "t0 1;"), 1);
        due("one STATE", states(x), 1);
        due("2", done(x, "t0 2;t0 3;"), 2);
        due("one STATE for both", states(x), 2);
        due("the last holds", x.told(8), 3);
        due("THE TEXT stays", x.refused(3), 10);
        due("again", x.does(), 2);
        due("another STATE", states(x), 3);
        due("back ahead of all of them", x.back() * 10 + x.told(8), 23);
        due("back ahead of the first time", x.back() * 10 + x.told(8), 11);
        due("24 of 120 bytes", doneNew("p0 1;".repeat(24)), 24);
        // 20 of 3 bytes, 12 of 5: no text has more that can be done
        due("32 of 120 bytes", done(idle(20), "d0;".repeat(20) + "p0 1;".repeat(12)), 32);
        says("Promise 20", "-10 less the FAULT (no S);");
        SecretSteps y = new SecretSteps();
        due("FAULT 0", done(y, ""), -10);
        due("FAULT 0 of a byte", done(y, ";"), -10);
        due("FAULT 1", done(y, " "), -11);
        due("FAULT 119", done(y, "p0 1;" + " ".repeat(114) + ";"), -129);
        due("FAULT 120", done(y, "p0 1" + " ".repeat(116)), -130);
        due("no S", states(y), 0);
        countsAre(y, 0, 0, 0);
        says("Promise 20", "-1000 less the number (0 on) of the ORDER that ends all (no S).");
        due("ORDER 0", doneNew("d0;"), -1000);
        due("ORDER 0 of two", doneNew("d0;t0 0;"), -1000);
        due("ORDER 1", doneNew("t0 0;d0;"), -1001);
        due("ORDER 0 of 40", doneNew("d0;".repeat(40)), -1000);
        due("ORDER 19 of 40", done(idle(19), "d0;".repeat(40)), -1019);
        due("ORDER 20 of 40", done(idle(20), "d0;".repeat(40)), -1020);
        SecretSteps z = idle(20);
        z.drops(19);
        z.line(SET, 0, 7, 0);
        due("ORDER 31 of 32", done(z, "d0;".repeat(20) + "p0 1;".repeat(11) + "p0 2;"), -1031);
        due("nothing is done", z.told(0) * 10 + z.told(1), 200);
        due("no S", states(z), 5);
        due("it would go back to 19", z.back() * 100 + z.told(0), 419);
        countsAre(z, 0, 0, 0);
    }

    private static void back() {
        says("Promise 21", "A STATE back: how many can be yet. NO: none.");
        SecretSteps x = new SecretSteps();
        due("none", x.back(), NO);
        x.start(0, 1);
        due("one", x.back(), 0);
        due("none again", x.back(), NO);
        for (int v = 1; v <= 6; v++) {
            x.start(0, v);
        }
        for (int left = 4; left >= 0; left--) {
            due("of six changes", x.back(), left);
            due("START", x.told(2), left + 1);
        }
        due("the first is lost", x.back(), NO);
        due("START stays", x.told(2), 1);
        countsAre(x, 0, 3, 0);
    }

    private static void refused() {
        says("Promise 22", "How often refused: BAD (0), NO (1), FULL (2); bytes of THE TEXT (3), STATES (4). BAD.");
        SecretSteps x = program(3);
        type(x, "abc");
        x.back();
        x.secret(1, 1);
        x.secret(2, 1);
        x.ahead(9, 9, 9);
        dueAll("each", new int[] {x.refused(0), x.refused(1), x.refused(2), x.refused(3), x.refused(4)}, 1, 0, 1, 3, 2);
        due("refused(-1)", x.refused(-1), BAD);
        due("refused(5)", x.refused(5), BAD);
        due("refused(far)", x.refused(MOST), BAD);
        due("refused(far below)", x.refused(LEAST), BAD);
        due("they count, too", x.refused(0), 5);
        x.back();
        x.back();
        x.back();
        due("NO", x.refused(1), 1);
        due("no STATES", x.refused(4), 0);
        type(x, " ".repeat(117));
        due("120 bytes", x.refused(3), 120);
        x.type(0);
        due("120 bytes yet", x.refused(3), 120);
        due("FULL", x.refused(2), 2);
    }

    private static long mixed(long h, int... values) {
        for (int v : values) {
            h = 31 * h + v;
        }
        return h;
    }

    private static final int[] TABLE_AT_FIRST = {0, 1, 2, 3, 4, 5, 6, 7, 8, 9, 10, 11, 12, 13, 14, 15};

    private static void digest() {
        says("Promise 23", "h = 1857; then h = 31 h + v for each v: refused(0) to refused(4); told(0) to told(23); of each LINE of(0) to of(3);");
        long h = mixed(mixed(1857, 0, 0, 0, 0, 0, 0, 0, 0, 0, 0, 0, 0, 0), TABLE_AT_FIRST);
        h = mixed(h, 0, 0, -1, 0, -1, 0, -1, 0, -1, 0, -1, 0, -1);
        due("no LINES", new SecretSteps().digest(), mixed(h, 1, -1, 1, 0, 0, 1, 0, 0, 0, 0, 0, 0));
        lineAndEnd();
        says("Promise 23", "of each LINE, the end too, that is come to its number, ahead() of each VARIABLE (0, 1); accepted(), leak(), rows(); run(0) of SECRETS 0, what 0 to 8.");
        loopHasNoEnd();
    }

    private static void lineAndEnd() {
        SecretSteps x = new SecretSteps();
        x.told(24);
        x.told(24);
        x.back();
        type(x, " ".repeat(120));
        x.type(32);
        x.type(32);
        x.type(32);
        x.secret(1, 1);
        x.line(LOAD, 2, 1, 0);
        x.start(5, 9);
        x.table(0, 6);
        x.table(0, 0);
        long h = mixed(mixed(1857, 2, 1, 3, 120, 5, 1, 2, 0, 0, 0, 0, 0, 9), TABLE_AT_FIRST);
        h = mixed(h, LOAD, 2, 1, 0);
        h = mixed(h, 0, 0, -1, 1, -1, 0, -1, 0, -1, 0, -1, 0, -1);
        h = mixed(h, 1, 0, -1, 1, -1, 1, -1, 0, -1, 0, -1, 0, -1);
        due("one LINE and the end", x.digest(), mixed(h, 0, 1, 16, 1, 0, 2, 0, 0, 0, 0, 0, 9));
        due("it changes nothing", x.digest(), mixed(h, 0, 1, 16, 1, 0, 2, 0, 0, 0, 0, 0, 9));
    }

    /** Neither LINE 2 nor the end is come to: only LINES 0 and 1 are mixed in. */
    private static void loopHasNoEnd() {
        long h = mixed(mixed(1857, 0, 0, 0, 0, 3, 3, 0, 0, 0, 0, 0, 0, 0), TABLE_AT_FIRST);
        h = mixed(h, SET, 0, 1, 0, JUMP, 0, 0, 0, MOVE, 5, 5, 0);
        h = mixed(h, 0, 0, -1, 0, -1, 0, -1, 0, -1, 0, -1, 0, -1);
        h = mixed(h, 1, 0, 1, 0, -1, 0, -1, 0, -1, 0, -1, 0, -1);
        due("what is not come to is left out", loop().digest(), mixed(h, 1, -1, 1, 60, 1, 31, 1, 0, 0, 0, 0, 0));
    }

    public static void main(String[] args) {
        aNewObject();
        line();
        drops();
        table();
        start();
        secret();
        run();
        sight();
        parts();
        leakAndRows();
        ahead();
        reached();
        alarm();
        accepted();
        of();
        told();
        typeAndClear();
        does();
        back();
        refused();
        digest();
        for (int promise = 1; promise <= 23; promise++) {
            due("each promise has a sentence: " + promise, hasHeading("Promise " + promise) ? 1 : 0, 1);
        }
        endAll("PromiseBoundariesTest");
    }
}
