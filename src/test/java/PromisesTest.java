/** Promise by promise: ordinary inputs, the edges that the document names, and wrong inputs. Every answer due was worked out by hand. */
public final class PromisesTest {
    private static final int NONE = -1, BAD = -2, NO = -3, FULL = -4;
    private static final int SET = 0, MOVE = 1, ADD = 2, AND = 3, XOR = 4, LOAD = 5, DIVIDE = 6, JUMP = 7, PICK = 8;

    private static int wrong = 0;
    private static int asked = 0;

    private static void due(String what, long got, long want) {
        asked++;
        if (got != want) {
            wrong++;
            System.out.println(what + ": answered " + got + ", due is " + want);
        }
    }

    /** Types a text into an emptied THE TEXT and does it. */
    private static int told(SecretSteps x, String text) {
        x.clear();
        for (int i = 0; i < text.length(); i++) {
            x.type(text.charAt(i));
        }
        return x.does();
    }

    private static SecretSteps by(String text) {
        SecretSteps x = new SecretSteps();
        if (told(x, text) < 0) {
            due("orders are done: " + text, -1, 0);
        }
        x.clear();
        return x;
    }

    private static void lines(SecretSteps x, int[]... rows) {
        for (int[] r : rows) {
            due("line added", x.line(r[0], r[1], r[2], r[3]) >= 0 ? 1 : 0, 1);
        }
    }

    private static int[] l(int k, int x, int y, int z) {
        return new int[] {k, x, y, z};
    }

    private static SecretSteps program(int secretBits, int[]... rows) {
        SecretSteps x = new SecretSteps();
        for (int v = 0; v < 6; v++) {
            if ((secretBits >> v & 1) == 1) {
                x.secret(v, 1);
            }
        }
        lines(x, rows);
        return x;
    }

    private static void all(SecretSteps x, String name, int[] want) {
        for (int what = 0; what < want.length; what++) {
            due(name + " told(" + what + ")", x.told(what), want[what]);
        }
    }

    // ---- 1

    private static void aNewObject() {
        SecretSteps x = new SecretSteps();
        all(x, "1 new", new int[] {0, 0, 0, 0, 0, 0, 0, 0, 0, 1, 2, 3, 4, 5, 6, 7, 8, 9, 10, 11, 12, 13, 14, 15});
        for (int what = 0; what < 5; what++) {
            due("1 new refused(" + what + ")", x.refused(what), 0);
        }
        due("1 NONE", SecretSteps.NONE, -1);
        due("1 BAD", SecretSteps.BAD, -2);
        due("1 NO", SecretSteps.NO, -3);
        due("1 FULL", SecretSteps.FULL, -4);
        due("1 run steps", x.run(0, 0), 0);
        due("1 rows", x.rows(), 1);
        SecretSteps other = new SecretSteps();
        other.start(0, 5);
        due("1 objects share nothing", x.told(2), 0);
    }

    // ---- 2

    private static void line() {
        SecretSteps x = new SecretSteps();
        due("2 first", x.line(SET, 5, 15, 0), 0);
        due("2 second", x.line(JUMP, 5, 20, 0), 1);
        due("2 pick", x.line(PICK, 5, 5, 5), 2);
        due("2 S each", x.refused(4), 3);
        int[][] wrongOnes = {
            l(-1, 0, 0, 0), l(9, 0, 0, 0), l(SET, -1, 0, 0), l(SET, 6, 0, 0), l(SET, 0, 16, 0), l(SET, 0, -1, 0), l(SET, 0, 0, 1),
            l(MOVE, 0, 6, 0), l(MOVE, 6, 0, 0), l(MOVE, 0, -1, 0), l(MOVE, 0, 0, 1), l(ADD, 0, 6, 0), l(ADD, 0, 0, 1),
            l(AND, 0, 6, 0), l(AND, 0, 0, -1), l(XOR, 0, 6, 0), l(XOR, 0, 0, 2), l(LOAD, 0, 6, 0), l(LOAD, 0, 0, 1),
            l(DIVIDE, 0, 6, 0), l(DIVIDE, 0, 0, 1), l(JUMP, 6, 0, 0), l(JUMP, 0, 21, 0), l(JUMP, 0, -1, 0), l(JUMP, 0, 0, 1),
            l(PICK, 6, 0, 0), l(PICK, 0, 6, 0), l(PICK, 0, 0, 6), l(PICK, 0, 0, -1), l(PICK, 0, -1, 0),
            l(Integer.MIN_VALUE, 0, 0, 0), l(Integer.MAX_VALUE, 0, 0, 0), l(SET, Integer.MAX_VALUE, 0, 0),
            l(SET, 0, Integer.MIN_VALUE, 0), l(PICK, 0, 0, Integer.MAX_VALUE)};
        for (int[] r : wrongOnes) {
            due("2 BAD " + r[0] + " " + r[1] + " " + r[2] + " " + r[3], x.line(r[0], r[1], r[2], r[3]), BAD);
        }
        due("2 BAD counted", x.refused(0), wrongOnes.length);
        due("2 nothing added", x.told(0), 3);
        for (int i = 3; i < 20; i++) {
            due("2 line " + i, x.line(MOVE, i % 6, 0, 0), i);
        }
        due("2 FULL", x.line(MOVE, 0, 0, 0), FULL);
        due("2 BAD ahead of FULL", x.line(MOVE, 0, 6, 0), BAD);
        due("2 FULL counted", x.refused(2), 1);
        due("2 twenty", x.told(0), 20);
        due("2 last is as it was", x.of(19, 1), 1);
    }

    // ---- 3

    private static void drops() {
        SecretSteps x = program(0, l(SET, 0, 10, 0), l(JUMP, 1, 3, 0), l(PICK, 2, 3, 4), l(SET, 3, 13, 0));
        due("3 BAD -1", x.drops(-1), BAD);
        due("3 BAD 4", x.drops(4), BAD);
        due("3 BAD far", x.drops(Integer.MAX_VALUE), BAD);
        due("3 first goes", x.drops(0), 3);
        due("3 jump is one less", x.of(0, 0), JUMP);
        due("3 jump stays as told", x.of(0, 2), 3);
        due("3 pick z", x.of(1, 3), 4);
        due("3 last", x.of(2, 2), 13);
        due("3 behind it none", x.of(3, 0), BAD);
        due("3 middle goes", x.drops(1), 2);
        due("3 last is one less", x.of(1, 2), 13);
        due("3 last goes", x.drops(1), 1);
        due("3 all go", x.drops(0), 0);
        due("3 none left", x.drops(0), BAD);
        due("3 new ones follow", x.line(SET, 1, 1, 0), 0);
        SecretSteps full = new SecretSteps();
        for (int i = 0; i < 20; i++) {
            full.line(SET, 0, i % 16, 0);
        }
        due("3 of twenty the last", full.drops(19), 19);
        due("3 of nineteen the first", full.drops(0), 18);
        for (int i = 0; i < 18; i++) {
            due("3 moved " + i, full.of(i, 2), (i + 1) % 16);
        }
        due("3 S", full.refused(4), 5);
        due("3 back", full.back(), 4);
        due("3 back has it", full.told(0), 19);
    }

    // ---- 4, 5

    private static void table() {
        SecretSteps x = new SecretSteps();
        due("4 had 15", x.table(15, 0), 15);
        due("4 had 0", x.table(0, 15), 0);
        due("4 has 15", x.table(0, 7), 15);
        due("4 same again", x.table(0, 7), 7);
        due("4 S each", x.refused(4), 4);
        due("4 BAD i", x.table(-1, 0), BAD);
        due("4 BAD i 16", x.table(16, 0), BAD);
        due("4 BAD v", x.table(0, -1), BAD);
        due("4 BAD v 16", x.table(0, 16), BAD);
        due("4 told 0", x.told(8), 7);
        due("4 told 15", x.told(23), 0);
        due("4 told 1", x.told(9), 1);
        due("4 no S", x.refused(4), 4);
    }

    private static void start() {
        SecretSteps x = new SecretSteps();
        due("5 was 0", x.start(5, 15), 0);
        due("5 was 15", x.start(5, 3), 15);
        due("5 first", x.start(0, 1), 0);
        due("5 same again", x.start(0, 1), 1);
        due("5 S each", x.refused(4), 4);
        due("5 BAD x", x.start(6, 0), BAD);
        due("5 BAD x -1", x.start(-1, 0), BAD);
        due("5 BAD v", x.start(0, 16), BAD);
        due("5 BAD v -1", x.start(0, -1), BAD);
        due("5 told", x.told(7), 3);
        due("5 run has it", x.run(0, 8), 3);
        due("5 secret ones keep it", x.secret(5, 1), 0);
        due("5 but runs do not have it", x.run(9, 8), 9);
        due("5 start of a secret one", x.start(5, 4), 3);
        due("5 public again", x.secret(5, 0), 1);
        due("5 run has it again", x.run(0, 8), 4);
    }

    // ---- 6

    private static void secret() {
        SecretSteps x = new SecretSteps();
        due("6 was public", x.secret(2, 1), 0);
        due("6 was secret", x.secret(2, 1), 1);
        due("6 second", x.secret(5, 1), 0);
        due("6 bits", x.told(1), 36);
        due("6 third", x.secret(0, 1), FULL);
        due("6 FULL counted", x.refused(2), 1);
        due("6 BAD ahead of FULL", x.secret(0, 2), BAD);
        due("6 one of the two again", x.secret(5, 1), 1);
        due("6 a public one stays public beside two", x.secret(0, 0), 0);
        due("6 S each", x.refused(4), 5);
        due("6 public again", x.secret(2, 0), 1);
        due("6 room for another", x.secret(0, 1), 0);
        due("6 bits then", x.told(1), 33);
        due("6 BAD x", x.secret(6, 1), BAD);
        due("6 BAD x -1", x.secret(-1, 1), BAD);
        due("6 BAD x 32", x.secret(32, 1), BAD);
        due("6 BAD b", x.secret(1, -1), BAD);
    }

    // ---- 7

    private static void run() {
        SecretSteps x = new SecretSteps();
        x.secret(4, 1);
        x.secret(1, 1);
        due("7 least is lowest", x.run(0xA3, 4), 3);
        due("7 other is above", x.run(0xA3, 7), 10);
        due("7 all", x.run(255, 7), 15);
        due("7 BAD 256", x.run(256, 0), BAD);
        due("7 BAD -1", x.run(-1, 0), BAD);
        due("7 BAD what", x.run(0, 9), BAD);
        due("7 BAD what -1", x.run(0, -1), BAD);
        due("7 BAD counted", x.refused(0), 4);
        kindsInRuns();
        jumpsInRuns();
        cutRuns();
    }

    private static int after(int a, int b, int c, int[] row) {
        SecretSteps x = new SecretSteps();
        x.start(0, a);
        x.start(1, b);
        x.start(2, c);
        x.line(row[0], row[1], row[2], row[3]);
        return x.run(0, 3);
    }

    private static void kindsInRuns() {
        due("7 SET", after(3, 9, 0, l(SET, 0, 12, 0)), 12);
        due("7 MOVE", after(3, 9, 0, l(MOVE, 0, 1, 0)), 9);
        due("7 ADD", after(3, 9, 0, l(ADD, 0, 1, 0)), 12);
        due("7 ADD over", after(9, 9, 0, l(ADD, 0, 1, 0)), 2);
        due("7 ADD itself", after(15, 0, 0, l(ADD, 0, 0, 0)), 14);
        due("7 AND", after(6, 12, 0, l(AND, 0, 1, 0)), 4);
        due("7 XOR", after(6, 12, 0, l(XOR, 0, 1, 0)), 10);
        due("7 LOAD", after(0, 9, 0, l(LOAD, 0, 1, 0)), 9);
        due("7 DIVIDE", after(14, 4, 0, l(DIVIDE, 0, 1, 0)), 3);
        due("7 DIVIDE by more", after(3, 4, 0, l(DIVIDE, 0, 1, 0)), 0);
        due("7 DIVIDE by 0", after(3, 0, 0, l(DIVIDE, 0, 1, 0)), 15);
        due("7 DIVIDE 0 by 0", after(0, 0, 0, l(DIVIDE, 0, 0, 0)), 15);
        due("7 PICK y", after(1, 7, 8, l(PICK, 0, 1, 2)), 7);
        due("7 PICK z", after(0, 7, 8, l(PICK, 0, 1, 2)), 8);
        due("7 PICK itself", after(5, 7, 8, l(PICK, 0, 0, 2)), 5);
        SecretSteps x = program(0, l(LOAD, 0, 0, 0), l(LOAD, 0, 0, 0));
        x.start(0, 4);
        x.table(4, 11);
        x.table(11, 2);
        due("7 LOAD by the TABLE, twice", x.run(0, 3), 2);
        due("7 the TABLE's places", x.sight(0, 0) * 1000 + x.sight(0, 1), 104111);
    }

    private static void jumpsInRuns() {
        SecretSteps x = program(1, l(JUMP, 0, 20, 0), l(SET, 1, 1, 0), l(JUMP, 1, 1, 0), l(SET, 2, 2, 0));
        due("7 a jump behind the last ends", x.run(1, 0), 1);
        due("7 not cut", x.run(1, 1), 0);
        due("7 a loop is cut", x.run(0, 1), 1);
        due("7 behind 60 steps", x.run(0, 0), 60);
        // one jump ahead of the loop, then 59 steps: SET and JUMP by turns, JUMPS 29; the end
        due("7 sights of a loop", x.run(0, 2), 31);
        due("7 what was set", x.run(0, 4), 1);
        due("7 what was never set", x.run(0, 5), 0);
    }

    private static void cutRuns() {
        // 4 lines round and round: 15 rounds are 60 steps, the last of them a jump
        SecretSteps x = program(0, l(MOVE, 1, 1, 0), l(MOVE, 1, 1, 0), l(ADD, 0, 2, 0), l(JUMP, 0, 0, 0));
        x.start(0, 1);
        x.start(2, 1);
        // 0 becomes 2, 3, .. 15, 0: the 15th jump does not jump, the end is next: not cut
        due("7 sixty steps", x.run(0, 0), 60);
        due("7 ended just in time", x.run(0, 1), 0);
        due("7 its value", x.run(0, 3), 0);
        due("7 its end", x.sight(0, 15), 660);
        due("7 last jump", x.sight(0, 14), 506);
        x.line(MOVE, 1, 1, 0);
        due("7 sixty steps, one more line", x.run(0, 0), 60);
        due("7 cut", x.run(0, 1), 1);
        due("7 sights of a cut one", x.run(0, 2), 16);
        due("7 end of a cut one", x.sight(0, 15), 660);
    }

    // ---- 8, 9

    private static void sight() {
        SecretSteps x = program(1, l(SET, 1, 3, 0), l(DIVIDE, 0, 1, 0), l(LOAD, 2, 0, 0), l(JUMP, 0, 5, 0), l(SET, 3, 1, 0), l(JUMP, 3, 6, 0));
        int[] wantOf13 = {200 + 16 * 13 + 3, 104, 507, 511, 605, NONE};
        int[] wantOf2 = {200 + 16 * 2 + 3, 100, 506, 511, 606, NONE};
        // by 13 LINE 5 is jumped to: 3 is 0 there
        wantOf13[3] = 510;
        for (int i = 0; i < 6; i++) {
            due("8 by 13, " + i, x.sight(13, i), wantOf13[i]);
            due("8 by 2, " + i, x.sight(2, i), wantOf2[i]);
        }
        due("8 far behind", x.sight(2, Integer.MAX_VALUE), NONE);
        due("8 BAD i", x.sight(2, -1), BAD);
        due("8 BAD s", x.sight(16, 0), BAD);
        due("8 BAD s -1", x.sight(-1, 0), BAD);
        due("8 BAD counted", x.refused(0), 3);
        SecretSteps most = program(0, l(LOAD, 1, 1, 0), l(JUMP, 0, 0, 0));
        most.start(0, 1);
        due("8 most sights", most.run(0, 2), 61);
        due("8 last but one", most.sight(0, 59), 503);
        due("8 last", most.sight(0, 60), 660);
        due("8 none behind", most.sight(0, 61), NONE);
    }

    private static void parts() {
        SecretSteps x = program(2, l(LOAD, 0, 0, 0), l(JUMP, 1, 3, 0), l(LOAD, 0, 0, 0), l(LOAD, 2, 2, 0));
        due("9 at the jump", x.parts(0, 5), 1);
        due("9 the other way", x.parts(5, 0), 1);
        due("9 alike", x.parts(4, 5), NONE);
        due("9 the same", x.parts(7, 7), NONE);
        due("9 BAD s", x.parts(16, 0), BAD);
        due("9 BAD t", x.parts(0, 16), BAD);
        due("9 BAD t -1", x.parts(0, -1), BAD);
        due("9 BAD s -1", x.parts(-1, 0), BAD);
        due("9 BAD counted", x.refused(0), 4);
        SecretSteps y = program(2, l(LOAD, 0, 0, 0), l(DIVIDE, 1, 3, 0));
        due("9 at the divide", y.parts(2, 3), 1);
        SecretSteps z = program(2, l(LOAD, 0, 1, 0), l(LOAD, 0, 2, 0));
        due("9 at the first", z.parts(2, 3), 0);
        SecretSteps end = program(2, l(PICK, 1, 1, 3), l(SET, 0, 7, 0));
        due("9 no sight but the end", end.parts(0, 3), NONE);
    }

    // ---- 10, 11

    private static void leakAndRows() {
        SecretSteps x = program(0, l(JUMP, 0, 0, 0), l(LOAD, 1, 1, 0));
        due("10 no secrets", x.leak(), NONE);
        due("11 no secrets", x.rows(), 1);
        SecretSteps y = program(3, l(SET, 2, 8, 0), l(AND, 1, 2, 0), l(JUMP, 1, 3, 0));
        // secrets of 1 with bit 3: 8 times 16 at the least
        due("10 the least", y.leak(), 128);
        due("11 two", y.rows(), 2);
        SecretSteps z = program(3, l(LOAD, 2, 0, 0), l(LOAD, 2, 1, 0));
        due("10 at once", z.leak(), 1);
        due("11 all", z.rows(), 256);
        z.drops(0);
        due("10 of the second alone", z.leak(), 16);
        due("11 of the second alone", z.rows(), 16);
        z.secret(1, 0);
        due("10 of none", z.leak(), NONE);
        due("11 of none", z.rows(), 1);
        SecretSteps sum = program(3, l(ADD, 0, 1, 0), l(LOAD, 2, 0, 0));
        due("11 sums", sum.rows(), 16);
        due("10 sums", sum.leak(), 1);
        SecretSteps zero = program(1, l(SET, 1, 0, 0), l(AND, 1, 0, 0), l(LOAD, 2, 1, 0));
        due("10 nothing of it is left", zero.leak(), NONE);
        SecretSteps once = program(1, l(DIVIDE, 1, 1, 0), l(XOR, 0, 1, 0), l(JUMP, 0, 9, 0));
        // 1 becomes 15; only SECRETS 15 become 0: each but them is like SECRETS 0
        due("10 the last alone", once.leak(), 15);
        due("11 the last alone", once.rows(), 2);
        lateSights();
    }

    /** Rows that part only in their last SIGHTS: a table place that the secret tells, loaded at the end of a long run. */
    private static void lateSights() {
        SecretSteps x = new SecretSteps();
        x.secret(5, 1);
        x.start(0, 1);
        x.start(1, 4);
        lines(x, l(LOAD, 3, 2, 0), l(LOAD, 3, 2, 0), l(LOAD, 3, 2, 0), l(LOAD, 3, 2, 0), l(ADD, 1, 0, 0), l(JUMP, 1, 0, 0), l(LOAD, 3, 5, 0));
        // 1 is 4 and becomes 5 .. 0 in 12 rounds of 6 steps: cut behind 10 of them, so the last load is never done
        due("10 cut ahead of it", x.leak(), NONE);
        x.start(1, 7);
        due("10 late", x.leak(), 1);
        due("9 late", x.parts(0, 9), 45);
        due("11 late", x.rows(), 16);
        SecretSteps y = program(32, l(LOAD, 1, 1, 0), l(LOAD, 3, 3, 0), l(LOAD, 3, 3, 0), l(JUMP, 1, 0, 0), l(LOAD, 2, 5, 0));
        for (int i = 0; i < 16; i++) {
            y.table(i, (i + 1) % 16);
        }
        // the TABLE counts: 1 becomes 3 .. 0 in 14 rounds of 4 sights
        y.start(1, 2);
        due("9 very late", y.parts(0, 9), 56);
        due("10 very late", y.leak(), 1);
        due("11 very late", y.rows(), 16);
    }

    // ---- 12, 13

    private static void ahead() {
        SecretSteps x = program(1, l(SET, 1, 3, 0));
        due("12 tainted", x.ahead(0, 0, 0), 1);
        due("12 not tainted", x.ahead(0, 1, 0), 0);
        x.start(1, 5);
        due("12 starts are not known", x.ahead(0, 1, 1), NONE);
        due("12 set", x.ahead(1, 1, 1), 3);
        due("12 BAD i", x.ahead(2, 0, 0), BAD);
        due("12 BAD i -1", x.ahead(-1, 0, 0), BAD);
        due("12 BAD x", x.ahead(0, 6, 0), BAD);
        due("12 BAD x -1", x.ahead(0, -1, 0), BAD);
        due("12 BAD what", x.ahead(0, 0, 2), BAD);
        due("12 BAD what -1", x.ahead(0, 0, -1), BAD);
        due("12 BAD counted", x.refused(0), 6);
        kindsAhead();
        picksAhead();
        joinsAhead();
    }

    /** What is so of VARIABLE 0 behind the rows: 100 if TAINTED, and what it is KNOWN as. VARIABLE 5 is SECRET. */
    private static int behind(int[]... rows) {
        SecretSteps x = program(32, rows);
        x.table(3, 14);
        return 100 * x.ahead(rows.length, 0, 0) + x.ahead(rows.length, 0, 1);
    }

    private static void kindsAhead() {
        due("12 SET", behind(l(MOVE, 0, 5, 0), l(SET, 0, 7, 0)), 7);
        due("12 MOVE of a tainted one", behind(l(SET, 0, 7, 0), l(MOVE, 0, 5, 0)), 99);
        due("12 MOVE of a known one", behind(l(MOVE, 0, 5, 0), l(SET, 1, 7, 0), l(MOVE, 0, 1, 0)), 7);
        due("12 MOVE of a public one", behind(l(MOVE, 0, 1, 0)), -1);
        due("12 ADD known", behind(l(SET, 0, 9, 0), l(SET, 1, 8, 0), l(ADD, 0, 1, 0)), 1);
        due("12 ADD half known", behind(l(SET, 0, 9, 0), l(ADD, 0, 1, 0)), -1);
        due("12 ADD of a tainted one", behind(l(SET, 0, 9, 0), l(ADD, 0, 5, 0)), 99);
        due("12 ADD to a tainted one", behind(l(MOVE, 0, 5, 0), l(SET, 1, 0, 0), l(ADD, 0, 1, 0)), 99);
        due("12 DIVIDE known", behind(l(SET, 0, 9, 0), l(SET, 1, 2, 0), l(DIVIDE, 0, 1, 0)), 4);
        due("12 DIVIDE by known 0", behind(l(SET, 0, 9, 0), l(SET, 1, 0, 0), l(DIVIDE, 0, 1, 0)), 15);
        due("12 DIVIDE of unknown by known 0", behind(l(SET, 1, 0, 0), l(DIVIDE, 0, 1, 0)), -1);
        due("12 DIVIDE by a tainted one", behind(l(SET, 0, 0, 0), l(DIVIDE, 0, 5, 0)), 99);
        due("12 DIVIDE by itself", behind(l(MOVE, 0, 5, 0), l(DIVIDE, 0, 0, 0)), 99);
        due("12 XOR known", behind(l(SET, 0, 9, 0), l(SET, 1, 3, 0), l(XOR, 0, 1, 0)), 10);
        due("12 XOR by itself", behind(l(MOVE, 0, 5, 0), l(XOR, 0, 0, 0)), 0);
        due("12 XOR by its copy", behind(l(MOVE, 0, 5, 0), l(XOR, 0, 5, 0)), 99);
        due("12 XOR half known", behind(l(SET, 1, 3, 0), l(XOR, 0, 1, 0)), -1);
        due("12 AND known", behind(l(SET, 0, 9, 0), l(SET, 1, 3, 0), l(AND, 0, 1, 0)), 1);
        due("12 AND by known 0", behind(l(MOVE, 0, 5, 0), l(SET, 1, 0, 0), l(AND, 0, 1, 0)), 0);
        due("12 AND of known 0", behind(l(SET, 0, 0, 0), l(AND, 0, 5, 0)), 0);
        due("12 AND by known 1", behind(l(MOVE, 0, 5, 0), l(SET, 1, 1, 0), l(AND, 0, 1, 0)), 99);
        due("12 AND half known", behind(l(SET, 1, 3, 0), l(AND, 0, 1, 0)), -1);
        due("12 AND itself", behind(l(MOVE, 0, 5, 0), l(AND, 0, 0, 0)), 99);
        due("12 LOAD known", behind(l(SET, 1, 3, 0), l(LOAD, 0, 1, 0)), 14);
        due("12 LOAD tainted", behind(l(LOAD, 0, 5, 0)), 99);
        due("12 LOAD public", behind(l(MOVE, 0, 5, 0), l(LOAD, 0, 1, 0)), -1);
    }

    private static void picksAhead() {
        due("12 PICK known not 0", behind(l(SET, 0, 2, 0), l(SET, 1, 7, 0), l(PICK, 0, 1, 5)), 7);
        due("12 PICK known 0", behind(l(SET, 0, 0, 0), l(SET, 1, 7, 0), l(PICK, 0, 1, 5)), 99);
        due("12 PICK known 0 picks z", behind(l(SET, 0, 0, 0), l(SET, 1, 7, 0), l(PICK, 0, 5, 1)), 7);
        due("12 PICK known picks a public one", behind(l(SET, 0, 1, 0), l(PICK, 0, 1, 5)), -1);
        due("12 PICK by a tainted one", behind(l(MOVE, 0, 5, 0), l(SET, 1, 7, 0), l(SET, 2, 8, 0), l(PICK, 0, 1, 2)), 99);
        due("12 PICK of one number", behind(l(MOVE, 0, 5, 0), l(SET, 1, 7, 0), l(SET, 2, 7, 0), l(PICK, 0, 1, 2)), 7);
        due("12 PICK of one variable", behind(l(MOVE, 0, 5, 0), l(SET, 1, 0, 0), l(PICK, 0, 1, 1)), 0);
        due("12 PICK of one unknown variable", behind(l(MOVE, 0, 5, 0), l(PICK, 0, 1, 1)), 99);
        due("12 PICK by a public one", behind(l(SET, 1, 7, 0), l(SET, 2, 8, 0), l(PICK, 0, 1, 2)), -1);
        due("12 PICK tainted y", behind(l(PICK, 0, 5, 2)), 99);
        due("12 PICK tainted z", behind(l(PICK, 0, 2, 5)), 99);
    }

    private static void joinsAhead() {
        due("12 joined as one number", behind(l(SET, 0, 7, 0), l(JUMP, 1, 3, 0), l(SET, 0, 7, 0)), 7);
        due("12 joined as two", behind(l(SET, 0, 7, 0), l(JUMP, 1, 3, 0), l(SET, 0, 8, 0)), -1);
        due("12 joined with a tainted one", behind(l(SET, 0, 7, 0), l(JUMP, 1, 3, 0), l(MOVE, 0, 5, 0)), 99);
        due("12 not come to, not joined", behind(l(SET, 0, 7, 0), l(JUMP, 0, 3, 0), l(MOVE, 0, 5, 0)), 7);
        due("12 known 0 does not jump", behind(l(SET, 0, 0, 0), l(JUMP, 0, 3, 0), l(SET, 0, 6, 0)), 6);
        due("12 a jump far behind comes to the end", behind(l(SET, 0, 7, 0), l(JUMP, 1, 20, 0), l(SET, 0, 8, 0)), -1);
        SecretSteps x = program(32, l(MOVE, 0, 1, 0), l(MOVE, 1, 2, 0), l(MOVE, 2, 3, 0), l(MOVE, 3, 5, 0), l(JUMP, 4, 0, 0));
        for (int v = 0; v < 4; v++) {
            due("12 taint goes round to " + v, x.ahead(5, v, 0), 1);
            due("12 LINE 0 from behind, too: " + v, x.ahead(0, v, 0), 1);
        }
        due("12 not to 4", x.ahead(0, 4, 0), 0);
        SecretSteps y = program(0, l(SET, 0, 7, 0), l(SET, 1, 1, 0), l(JUMP, 1, 0, 0));
        due("12 LINE 0 from ahead, too", y.ahead(0, 0, 1), NONE);
        due("12 the end is not come to", y.ahead(3, 0, 1), NO);
        due("12 NO counted", y.refused(1), 1);
        due("12 BAD ahead of NO", y.ahead(3, 6, 1), BAD);
        SecretSteps z = program(0, l(SET, 0, 1, 0), l(SET, 1, 1, 0), l(ADD, 0, 1, 0), l(JUMP, 2, 2, 0));
        due("12 a loop that counts is not known", z.ahead(2, 0, 1), NONE);
        due("12 but what does not change in it is", z.ahead(2, 1, 1), 1);
        roundsAhead();
    }

    /** What becomes other only after LINES have been asked several times; what was so of an earlier program. */
    private static void roundsAhead() {
        SecretSteps x = program(0, l(SET, 0, 1, 0), l(SET, 1, 1, 0), l(MOVE, 4, 1, 0), l(MOVE, 1, 0, 0), l(ADD, 0, 0, 0), l(JUMP, 3, 2, 0));
        due("12 not known, seen in the third round", x.ahead(3, 4, 1), NONE);
        SecretSteps y = program(0, l(SET, 0, 1, 0), l(JUMP, 0, 3, 0), l(JUMP, 0, 20, 0), l(JUMP, 0, 2, 0));
        due("12 the end by a jump back", y.ahead(4, 0, 1), 1);
        SecretSteps z = program(1, l(MOVE, 1, 0, 0));
        due("12 tainted by the secret one", z.ahead(1, 1, 0), 1);
        z.secret(0, 0);
        due("12 not by a public one", z.ahead(1, 1, 0), 0);
        due("12 nor itself", z.ahead(1, 0, 0), 0);
        z.secret(0, 1);
        z.drops(0);
        z.line(SET, 1, 4, 0);
        due("12 set instead", z.ahead(1, 1, 0) * 100 + z.ahead(1, 1, 1), 4);
        z.drops(0);
        z.line(LOAD, 1, 1, 0);
        z.line(SET, 2, 4, 0);
        z.line(LOAD, 2, 2, 0);
        due("12 by the TABLE", z.ahead(3, 2, 1), 4);
        z.table(4, 11);
        due("12 by the TABLE as it is then", z.ahead(3, 2, 1), 11);
    }

    private static void reached() {
        SecretSteps x = program(0, l(SET, 0, 1, 0), l(JUMP, 0, 3, 0), l(MOVE, 1, 1, 0), l(JUMP, 2, 2, 0), l(SET, 0, 0, 0), l(JUMP, 0, 0, 0));
        int[] want = {1, 1, 1, 1, 1, 1, 1};
        for (int i = 0; i < 7; i++) {
            due("13 " + i, x.reached(i), want[i]);
        }
        x.drops(3);
        // LINE 1 now jumps to the SET behind the MOVE
        int[] then = {1, 1, 0, 1, 1, 1};
        for (int i = 0; i < 6; i++) {
            due("13 dropped " + i, x.reached(i), then[i]);
        }
        due("13 BAD", x.reached(6), BAD);
        due("13 BAD -1", x.reached(-1), BAD);
        due("13 BAD counted", x.refused(0), 2);
        SecretSteps full = new SecretSteps();
        for (int i = 0; i < 20; i++) {
            full.line(SET, 0, 1, 0);
        }
        due("13 the end of twenty", full.reached(20), 1);
        due("13 behind it", full.reached(21), BAD);
        full.drops(19);
        full.line(JUMP, 0, 19, 0);
        due("13 a jump to itself", full.reached(20), 0);
    }

    // ---- 14, 15

    private static void alarm() {
        SecretSteps x = program(32,
            l(LOAD, 0, 5, 0), l(LOAD, 5, 1, 0), l(LOAD, 2, 5, 0), l(DIVIDE, 0, 1, 0), l(SET, 1, 1, 0), l(DIVIDE, 1, 0, 0), l(JUMP, 1, 7, 0), l(JUMP, 5, 8, 0));
        // 0 is tainted by LINE 0; 5 is not any more behind LINE 1; 1 is behind LINE 5
        int[] want = {0, 3, 5, 6, NONE};
        for (int i = 0; i < want.length; i++) {
            due("14 " + i, x.alarm(i), want[i]);
        }
        due("14 far", x.alarm(Integer.MAX_VALUE), NONE);
        due("14 BAD", x.alarm(-1), BAD);
        due("14 BAD counted", x.refused(0), 1);
        due("15 not", x.accepted(), 0);
        SecretSteps y = program(32, l(SET, 0, 1, 0), l(JUMP, 0, 3, 0), l(LOAD, 1, 5, 0));
        due("14 not come to", y.alarm(0), NONE);
        due("15 not come to", y.accepted(), 1);
        due("14 divided by a tainted one", program(32, l(DIVIDE, 1, 5, 0)).alarm(0), 0);
        due("14 a tainted one divided", program(32, l(DIVIDE, 5, 1, 0)).alarm(0), 0);
        due("14 loaded into a tainted one", program(32, l(LOAD, 5, 1, 0)).alarm(0), NONE);
        SecretSteps z = program(32, l(ADD, 0, 5, 0), l(AND, 1, 5, 0), l(XOR, 2, 5, 0), l(MOVE, 3, 5, 0), l(PICK, 5, 1, 2), l(PICK, 4, 5, 5));
        due("14 none of the others", z.alarm(0), NONE);
        due("15 selections by a mask", z.accepted(), 1);
        z.line(JUMP, 4, 0, 0);
        due("15 but a jump by it", z.accepted(), 0);
        due("14 the jump", z.alarm(0), 6);
        due("15 by back", z.back() * 10 + z.accepted(), 41);
        due("15 an alarm without a leak", program(1, l(AND, 1, 0, 0), l(LOAD, 2, 1, 0)).accepted(), 0);
    }

    // ---- 16, 17

    private static void of() {
        SecretSteps x = program(0, l(PICK, 1, 2, 3), l(SET, 4, 15, 0));
        due("16 KIND", x.of(0, 0), PICK);
        due("16 x", x.of(0, 1), 1);
        due("16 y", x.of(0, 2), 2);
        due("16 z", x.of(0, 3), 3);
        due("16 of the next", x.of(1, 2), 15);
        due("16 BAD i", x.of(2, 0), BAD);
        due("16 BAD i -1", x.of(-1, 0), BAD);
        due("16 BAD what", x.of(0, 4), BAD);
        due("16 BAD what -1", x.of(1, -1), BAD);
        due("16 BAD counted", x.refused(0), 4);
    }

    private static void toldOfIt() {
        SecretSteps x = by("p5 1;v0 1;v5 14;t0 15;t15 0;l0 0 0 0;l0 0 0 0;");
        all(x, "17", new int[] {2, 32, 1, 0, 0, 0, 0, 14, 15, 1, 2, 3, 4, 5, 6, 7, 8, 9, 10, 11, 12, 13, 14, 0});
        due("17 BAD", x.told(24), BAD);
        due("17 BAD -1", x.told(-1), BAD);
    }

    // ---- 18, 19

    private static void typeAndClear() {
        SecretSteps x = new SecretSteps();
        due("19 empty", x.clear(), 0);
        due("18 least", x.type(0), 1);
        due("18 most", x.type(127), 2);
        due("18 BAD", x.type(128), BAD);
        due("18 BAD -1", x.type(-1), BAD);
        for (int i = 3; i <= 120; i++) {
            due("18 byte " + i, x.type(32), i);
        }
        due("18 FULL", x.type(32), FULL);
        due("18 BAD ahead of FULL", x.type(128), BAD);
        due("18 bytes", x.refused(3), 120);
        due("18 counted", x.refused(2), 1);
        due("18 BAD counted", x.refused(0), 3);
        due("18 no S", x.refused(4), 0);
        due("19 had", x.clear(), 120);
        due("19 none", x.refused(3), 0);
        due("19 again", x.clear(), 0);
        due("18 room again", x.type(65), 1);
    }

    // ---- 20

    private static void does() {
        SecretSteps x = new SecretSteps();
        due("20 orders", told(x, "l 8 1 2 3;d 0;t 4 5;v 1 9;p 3 1;"), 5);
        due("20 one S", x.refused(4), 1);
        due("20 no lines", x.told(0), 0);
        due("20 table", x.told(12), 5);
        due("20 start", x.told(3), 9);
        due("20 secret", x.told(1), 8);
        due("20 text stays", x.refused(3), 32);
        due("20 again", x.does(), 5);
        due("20 S again", x.refused(4), 2);
        due("20 back", x.back(), 1);
        due("20 back more", x.back(), 0);
        due("20 as at first", x.told(12), 4);
        due("20 text stays by back", x.refused(3), 32);
        due("20 blanks", told(x, "  l  07 1   20  0  ;  p0 1 ; "), 2);
        due("20 jump y", x.of(0, 2), 20);
        due("20 a pick", told(x, "l8 1 2 3;l8 5 4 3;d2;"), 3);
        for (int what = 0; what < 4; what++) {
            due("20 of the pick " + what, x.of(1, what), what == 0 ? PICK : what);
        }
        due("20 the pick goes", x.back() * 10 + x.told(0), 11);
        faults(x);
        refusedOrders();
    }

    private static void faults(SecretSteps x) {
        Object[][] rows = {
            {"", 0}, {" ", 1}, {"   ", 3}, {"l", 1}, {"l 1", 3}, {"d0", 2}, {"d0 ", 3}, {"d0; d", 5}, {";", 0}, {"d0;;", 3}, {"D0;", 0},
            {"x", 0}, {"1", 0}, {" 1", 1}, {"d;", 1}, {"dd0;", 1}, {"d123;", 3}, {"d12 3;", 4}, {"d1 2;", 3}, {"d 1 ;", -1}, {"t1;", 2}, {"t12;", 3},
            {"t1 2 3;", 5}, {"l1 2 3;", 6}, {"l1 2 3 4 5;", 9}, {"l 1 2 3 456", 10}, {"d0;x9 9 9;", 3}, {"d-1;", 1}, {"d0\t;", 2}, {"t1,2;", 2},
            {"p0 1;\0", 5}, {"p0 1", 4}, {"p0 1 v0 1;", 5}, {"d0 d0;", 3}, {"p 0 1;l99 99 99 99; z", 20}, {"v0 1:", 4}, {"v0 /1", 3}, {"d0; ", -1}};
        int states = x.refused(4);
        for (Object[] row : rows) {
            int fault = (Integer) row[1];
            due("20 FAULT of '" + row[0] + "'", told(x, (String) row[0]), fault < 0 ? row[0].equals("d0; ") ? 1 : -1000 : -10 - fault);
            if (fault >= 0) {
                due("20 no S", x.refused(4), states);
            }
        }
        due("20 S of the good one", x.refused(4), states + 1);
        due("20 nothing counts", x.refused(0) + x.refused(1) + x.refused(2), 0);
        StringBuilder long120 = new StringBuilder();
        for (int i = 0; i < 20; i++) {
            long120.append("p0 1; ");
        }
        due("20 of 120 bytes", told(x, long120.toString()), 20);
        long120.setLength(0);
        for (int i = 0; i < 40; i++) {
            long120.append("d0;");
        }
        due("20 forty orders", told(x, long120.toString()), -1000);
        long120.setLength(117);
        due("20 forty orders, the last cut", told(x, long120 + "d0 "), -10 - 120);
    }

    private static void refusedOrders() {
        SecretSteps x = program(3, l(SET, 0, 1, 0));
        int states = x.refused(4);
        long before = x.digest();
        due("20 BAD kind", told(x, "v0 1;l9 0 0 0;"), -1001);
        due("20 BAD start", told(x, "v0 16;"), -1000);
        due("20 BAD table", told(x, "t16 0;"), -1000);
        due("20 BAD drop", told(x, "d0;d0;"), -1001);
        due("20 FULL secret", told(x, "p0 0;p3 1;t0 1;p4 1;"), -1003);
        due("20 a FAULT goes first", told(x, "l9 0 0 0;?"), -19);
        due("20 FULL lines", told(x, "l0 0 0 0;l0 0 0 0;l0 0 0 0;l0 0 0 0;l0 0 0 0;l0 0 0 0;l0 0 0 0;l0 0 0 0;l0 0 0 0;l0 0 0 0;"), 10);
        due("20 FULL lines again", x.does(), -1009);
        due("20 S once", x.refused(4), Math.min(5, states + 1));
        due("20 lines stay", x.told(0), 11);
        due("20 nothing counts", x.refused(0) + x.refused(1) + x.refused(2), 0);
        x.back();
        x.clear();
        due("20 as before", x.digest(), before);
        due("20 in their order", told(x, "d0;l0 2 2 0;l0 3 3 0;d0;"), 4);
        due("20 the last stays", x.of(0, 2), 3);
    }

    // ---- 21, 22

    private static void back() {
        SecretSteps x = new SecretSteps();
        due("21 none", x.back(), NO);
        due("21 NO counted", x.refused(1), 1);
        for (int v = 1; v <= 7; v++) {
            x.start(0, v);
        }
        due("21 five at most", x.refused(4), 5);
        for (int left = 4; left >= 0; left--) {
            due("21 left", x.back(), left);
            due("21 start", x.told(2), left + 2);
        }
        due("21 older ones are lost", x.back(), NO);
        due("21 stays", x.told(2), 2);
        x.start(0, 2);
        due("21 nothing became other", x.refused(4), 1);
        x.start(0, 99);
        due("21 a refused one leaves none", x.refused(4), 1);
        x.start(1, 3);
        due("21 back one", x.back(), 1);
        x.table(0, 9);
        x.line(SET, 0, 3, 0);
        x.secret(0, 1);
        due("21 four", x.refused(4), 4);
        due("21 secret back", x.back() * 10 + x.told(1), 30);
        due("21 line back", x.back() * 10 + x.told(0), 20);
        due("21 table back", x.back() * 10 + x.told(8), 10);
        due("21 first back", x.back() * 10 + x.told(2), 2);
        due("21 refusals stay", x.refused(0) * 10 + x.refused(1), 12);
        runsBehindBack();
    }

    private static void runsBehindBack() {
        SecretSteps x = program(1, l(LOAD, 1, 0, 0));
        due("21 leaks", x.leak() * 100 + x.rows(), 116);
        x.drops(0);
        due("21 does not", x.rows() * 10 + x.accepted(), 11);
        x.back();
        due("21 leaks again", x.leak() * 100 + x.rows(), 116);
        due("21 alarm again", x.accepted(), 0);
        due("21 told again", x.told(0), 1);
        x.start(1, 3);
        x.back();
        due("21 a change from there", x.start(2, 5), 0);
        due("21 what was taken back stays so", x.told(3), 0);
        due("21 orders refused", told(x, "v3 7;d9;"), -1001);
        due("21 a change from there, too", x.table(0, 1), 0);
        due("21 what was not done stays so", x.told(5), 0);
    }

    private static void refused() {
        SecretSteps x = program(3, l(SET, 0, 1, 0), l(JUMP, 0, 0, 0));
        x.refused(5);
        x.refused(-1);
        x.told(99);
        x.ahead(2, 0, 0);
        x.secret(4, 1);
        x.secret(5, 1);
        x.type(100);
        due("22 BAD", x.refused(0), 3);
        due("22 NO", x.refused(1), 1);
        due("22 FULL", x.refused(2), 2);
        due("22 bytes", x.refused(3), 1);
        due("22 STATES", x.refused(4), 4);
        due("22 BAD 5", x.refused(5), BAD);
        due("22 BAD again", x.refused(0), 4);
    }

    // ---- 23

    /** The digest from the calls themselves, as the document tells it. */
    private static long byCalls(SecretSteps x) {
        long h = 1857;
        for (int what = 0; what < 5; what++) {
            h = 31 * h + x.refused(what);
        }
        for (int what = 0; what < 24; what++) {
            h = 31 * h + x.told(what);
        }
        int count = x.told(0);
        for (int i = 0; i < count; i++) {
            for (int what = 0; what < 4; what++) {
                h = 31 * h + x.of(i, what);
            }
        }
        for (int i = 0; i <= count; i++) {
            if (x.reached(i) == 1) {
                h = 31 * h + i;
                for (int v = 0; v < 6; v++) {
                    h = 31 * (31 * h + x.ahead(i, v, 0)) + x.ahead(i, v, 1);
                }
            }
        }
        h = 31 * (31 * (31 * h + x.accepted()) + x.leak()) + x.rows();
        for (int what = 0; what < 9; what++) {
            h = 31 * h + x.run(0, what);
        }
        return h;
    }

    private static void digest() {
        SecretSteps x = program(34, l(SET, 0, 1, 0), l(JUMP, 0, 3, 0), l(SET, 1, 1, 0), l(LOAD, 2, 5, 0), l(JUMP, 1, 0, 0));
        x.start(4, 9);
        x.table(3, 3);
        x.of(9, 9);
        x.back();
        x.type(7);
        due("23 by calls", x.digest(), byCalls(x));
        due("23 again", x.digest(), byCalls(x));
        SecretSteps none = new SecretSteps();
        due("23 new", none.digest(), byCalls(none));
        long before = none.digest();
        none.told(24);
        due("23 sees refusals", none.digest() != before ? 1 : 0, 1);
    }

    public static void main(String[] args) {
        aNewObject();
        line();
        drops();
        table();
        start();
        secret();
        run();
        sight();
        parts();
        leakAndRows();
        ahead();
        reached();
        alarm();
        of();
        toldOfIt();
        typeAndClear();
        does();
        back();
        refused();
        digest();
        System.out.println("PromisesTest: " + asked + " answers asked, " + wrong + " wrong");
        if (wrong != 0) {
            System.exit(1);
        }
    }
}
