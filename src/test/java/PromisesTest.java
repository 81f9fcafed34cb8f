/** Promises 1 to 13, each with ordinary inputs, the edges that the document names, and wrong inputs. */
public final class PromisesTest {
    private static final int CONST = 0, CELL = 1, ADD = 2, SUB = 3, MUL = 4, LESS = 5, EQUAL = 6,
            BOTH = 7, EITHER = 8, NOT = 9, ROWS = 10, WHERE = 11, COUNT = 12, ANY = 13, SUM = 14,
            MOST = 15, LEAST = 16, KINDS = 17;
    private static final int MIN = Integer.MIN_VALUE, MAX = Integer.MAX_VALUE;

    private static int wrong = 0;

    private static void due(String what, int got, int want) {
        if (got != want) {
            wrong++;
            System.out.println(what + " answered " + got + ", due is " + want);
        }
    }

    /** Puts tokens, given as kind, a, kind, a ..; each of them has to be taken. */
    private static void put(RowQueries x, String what, int... kindsAndOperands) {
        for (int i = 0; i < kindsAndOperands.length; i += 2) {
            int answer = x.token(kindsAndOperands[i], kindsAndOperands[i + 1]);
            if (answer < 1) {
                due(what + ": token " + i / 2, answer, i / 2 + 1);
            }
        }
    }

    private static void replace(RowQueries x, String what, int... kindsAndOperands) {
        x.clear();
        put(x, what, kindsAndOperands);
    }

    private static void dueResult(RowQueries x, String what, int want, int... kindsAndOperands) {
        replace(x, what, kindsAndOperands);
        due(what + ": whole", x.whole(), 1);
        due(what + ": result", x.result(), want);
    }

    private static void dueReached(RowQueries x, String what, int... want) {
        for (int i = 0; i < want.length; i++) {
            due(what + ": reached(" + i + ")", x.reached(i), want[i]);
        }
        due(what + ": reached behind the end", x.reached(want.length), -2);
    }

    private static void newObject() {
        RowQueries x = new RowQueries();
        for (int table = 0; table < 3; table++) {
            due("1: rows", x.rows(table), 0);
            due("1: cell", x.cell(table, 0, 0), 0);
            due("1: remove", x.remove(table, 0), -2);
        }
        due("1: whole", x.whole(), 0);
        due("1: result", x.result(), 0);
        due("1: reached", x.reached(0), -1);
        due("1: drop", x.drop(), -1);
        due("1: clear", x.clear(), 0);
        RowQueries y = new RowQueries();
        x.add(0, 1, 2, 3);
        x.token(CONST, 1);
        due("1: another object's rows", y.rows(0), 0);
        due("1: another object's tokens", y.clear(), 0);
    }

    private static void add() {
        RowQueries x = new RowQueries();
        for (int n = 1; n <= 6; n++) {
            for (int table = 0; table < 3; table++) {
                due("2: add", x.add(table, 100 * table + n, -n, MAX - n), n);
            }
        }
        for (int table = 0; table < 3; table++) {
            due("2: add to a full table", x.add(table, 9, 9, 9), -2);
            due("2: rows", x.rows(table), 6);
            for (int row = 0; row < 6; row++) {
                due("2: cell a", x.cell(table, row, 0), 100 * table + row + 1);
                due("2: cell b", x.cell(table, row, 1), -row - 1);
                due("2: cell c", x.cell(table, row, 2), MAX - row - 1);
            }
        }
        for (int table : new int[] {-1, 3, MIN, MAX}) {
            due("2: add to no table", x.add(table, 0, 0, 0), -1);
        }
    }

    private static void remove() {
        RowQueries x = new RowQueries();
        for (int n = 0; n < 6; n++) {
            x.add(0, n, 10 + n, 20 + n);
            x.add(1, 30 + n, 40 + n, 50 + n);
        }
        due("3: the first", x.remove(0, 0), 5);
        due("3: one within", x.remove(0, 2), 4);
        due("3: the last", x.remove(0, 3), 3);
        int[] left = {1, 2, 4};
        for (int row = 0; row < left.length; row++) {
            due("3: cell a", x.cell(0, row, 0), left[row]);
            due("3: cell b", x.cell(0, row, 1), 10 + left[row]);
            due("3: cell c", x.cell(0, row, 2), 20 + left[row]);
        }
        due("3: no such row", x.remove(0, 3), -2);
        due("3: row -1", x.remove(0, -1), -2);
        due("3: row far off", x.remove(0, MAX), -2);
        due("3: row far below", x.remove(0, MIN), -2);
        due("3: table -1", x.remove(-1, 0), -1);
        due("3: table 3", x.remove(3, 0), -1);
        due("3: table and row wrong", x.remove(3, 9), -1);
        due("3: rows after refused calls", x.rows(0), 3);
        due("3: the other table's rows", x.rows(1), 6);
        due("3: the other table's first cell", x.cell(1, 0, 0), 30);
        due("3: add after remove", x.add(0, 7, 8, 9), 4);
        due("3: the row added", x.cell(0, 3, 2), 9);
        for (int n = 3; n >= 0; n--) {
            due("3: to the last row", x.remove(0, 0), n);
        }
        due("3: of an empty table", x.remove(0, 0), -2);
        for (int n = 0; n < 6; n++) {
            x.add(2, n, n, n);
        }
        due("3: the last row of all", x.remove(2, 5), 5);
        x.add(2, 6, 6, 6);
        due("3: the first row of the last table", x.remove(2, 0), 5);
        due("3: what stands last there", x.cell(2, 4, 2), 6);
    }

    private static void store() {
        RowQueries x = new RowQueries();
        x.add(1, 1, 2, 3);
        x.add(1, 4, 5, 6);
        due("4: without a program", x.store(1, 0, 0), -3);
        put(x, "4", ROWS, 1, CELL, 2, SUM, 0);
        due("4: store", x.store(1, 1, 2), 1);
        due("4: the cell", x.cell(1, 1, 2), 9);
        due("4: the cell before it", x.cell(1, 1, 1), 5);
        due("4: the row before it", x.cell(1, 0, 2), 3);
        due("4: the result goes along", x.result(), 12);
        due("4: store again", x.store(1, 0, 0), 1);
        due("4: the cell", x.cell(1, 0, 0), 12);
        due("4: table -1", x.store(-1, 0, 0), -1);
        due("4: table 3", x.store(3, 0, 0), -1);
        due("4: column -1", x.store(1, 0, -1), -1);
        due("4: column 3", x.store(1, 0, 3), -1);
        due("4: column and row wrong", x.store(1, 2, 3), -1);
        due("4: row 2", x.store(1, 2, 0), -2);
        due("4: row -1", x.store(1, -1, 0), -2);
        x.token(CONST, 1);
        due("4: two numbers", x.store(1, 0, 0), -3);
        due("4: row wrong, not whole", x.store(1, 2, 0), -2);
        due("4: column wrong, not whole", x.store(1, 0, 3), -1);
        replace(x, "4: open", CONST, 1, ROWS, 0);
        due("4: a block is open", x.store(1, 0, 0), -3);
        due("4: the cell after refused calls", x.cell(1, 0, 0), 12);
    }

    private static void tokenOperands() {
        RowQueries x = new RowQueries();
        for (int kind : new int[] {-1, 18, MIN, MAX}) {
            due("5: kind " + kind, x.token(kind, 0), -1);
        }
        due("5: CONST -100", x.token(CONST, -100), -1);
        due("5: CONST 100", x.token(CONST, 100), -1);
        due("5: CELL -1", x.token(CELL, -1), -1);
        due("5: CELL 9", x.token(CELL, 9), -1);
        due("5: ROWS -1", x.token(ROWS, -1), -1);
        due("5: ROWS 3", x.token(ROWS, 3), -1);
        due("5: CELL without a block", x.token(CELL, 0), -3);
        due("5: CONST -99", x.token(CONST, -99), 1);
        due("5: CONST 99", x.token(CONST, 99), 2);
        due("5: ADD does not look at a", x.token(ADD, MIN), 3);
        due("5: NOT does not look at a", x.token(NOT, MAX), 4);
        due("5: ROWS 2", x.token(ROWS, 2), 5);
        due("5: CELL 2", x.token(CELL, 2), 6);
        due("5: CELL 3, one block", x.token(CELL, 3), -3);
        due("5: CELL 8, one block", x.token(CELL, 8), -3);
        due("5: ROWS 0", x.token(ROWS, 0), 7);
        due("5: CELL 5", x.token(CELL, 5), 8);
        due("5: CELL 6, two blocks", x.token(CELL, 6), -3);
        due("5: ROWS 1", x.token(ROWS, 1), 9);
        due("5: CELL 8", x.token(CELL, 8), 10);
        due("5: KINDS does not look at a", x.token(KINDS, -5), 11);
        due("5: CELL 6, the block has ended", x.token(CELL, 6), -3);
    }

    private static void tokenNeeds() {
        RowQueries x = new RowQueries();
        for (int kind = ADD; kind <= KINDS; kind++) {
            if (kind != ROWS) {
                due("5: kind " + kind + " on nothing", x.token(kind, 0), -4);
            }
        }
        put(x, "5", CONST, 1);
        for (int kind = WHERE; kind <= KINDS; kind++) {
            due("5: kind " + kind + " without a block", x.token(kind, 0), -4);
        }
        for (int kind = ADD; kind <= EITHER; kind++) {
            due("5: kind " + kind + " on one number", x.token(kind, 0), -4);
        }
        put(x, "5", CONST, 1, ROWS, 0);
        for (int kind = ADD; kind <= KINDS; kind++) {
            if (kind != ROWS && kind != COUNT && kind != ANY) {
                due("5: kind " + kind + " on what stood before", x.token(kind, 0), -4);
            }
        }
        put(x, "5", CONST, 1);
        for (int kind = ADD; kind <= EITHER; kind++) {
            due("5: kind " + kind + " on one of the block's", x.token(kind, 0), -4);
        }
        due("5: COUNT on a number", x.token(COUNT, 0), -4);
        due("5: ANY on a number", x.token(ANY, 0), -4);
        put(x, "5", CONST, 1);
        for (int kind = WHERE; kind <= KINDS; kind++) {
            due("5: kind " + kind + " on two numbers", x.token(kind, 0), -4);
        }
        due("5: ADD of the block's two", x.token(ADD, 0), 6);
        due("5: WHERE", x.token(WHERE, 0), 7);
        due("5: WHERE took its number", x.token(WHERE, 0), -4);
        due("5: SUM after WHERE", x.token(SUM, 0), -4);
        due("5: COUNT", x.token(COUNT, 0), 8);
        due("5: COUNT put a number", x.token(ADD, 0), 9);
        due("5: ADD of the last two", x.token(ADD, 0), 10);
        due("5: one is left", x.token(ADD, 0), -4);
        due("5: whole", x.whole(), 1);
    }

    private static void tokenRoom() {
        RowQueries x = new RowQueries();
        put(x, "5", CONST, 1, CONST, 2, ROWS, 0, CONST, 3, CONST, 4, ROWS, 1, CONST, 5, CELL, 0);
        due("5: a seventh CONST", x.token(CONST, 7), -5);
        due("5: a seventh CELL", x.token(CELL, 3), -5);
        due("5: CELL of no block, no room", x.token(CELL, 6), -3);
        due("5: ROWS on six", x.token(ROWS, 2), 9);
        due("5: COUNT on six", x.token(COUNT, 0), -5);
        due("5: ANY on six", x.token(ANY, 0), -5);
        due("5: SUM without its number", x.token(SUM, 0), -4);
        due("5: a fourth block", x.token(ROWS, 0), -5);
        due("5: drop", x.drop(), 8);
        due("5: NOT on six", x.token(NOT, 0), 9);
        due("5: MUL on six", x.token(MUL, 0), 10);
        due("5: ROWS on five", x.token(ROWS, 2), 11);
        due("5: CONST on five", x.token(CONST, 6), 12);
        due("5: SUM on six", x.token(SUM, 0), 13);
        due("5: CONST after SUM", x.token(CONST, 6), -5);
        due("5: refused ones are not counted", x.clear(), 13);
    }

    private static void tokenCount() {
        RowQueries x = new RowQueries();
        due("5: token 1", x.token(CONST, 1), 1);
        for (int n = 2; n <= 48; n++) {
            due("5: token " + n, x.token(NOT, 0), n);
        }
        due("5: token 49", x.token(NOT, 0), -2);
        due("5: token 49, wrong kind", x.token(18, 0), -1);
        due("5: token 49, wrong operand", x.token(CONST, 100), -1);
        due("5: token 49, no block", x.token(CELL, 0), -2);
        due("5: token 49, no numbers", x.token(ADD, 0), -2);
        due("5: result of 48", x.result(), 0);
        due("5: the last is worked out", x.reached(47), 1);
        due("5: there is no more", x.reached(48), -2);
        due("5: drop", x.drop(), 47);
        due("5: result of 47", x.result(), 1);
        due("5: token 48 again", x.token(NOT, 0), 48);
    }

    private static void drop() {
        RowQueries x = new RowQueries();
        x.add(0, 5, 6, 7);
        x.add(1, 8, 9, 10);
        due("6: nothing", x.drop(), -1);
        put(x, "6", ROWS, 0, CELL, 1, SUM, 0, ROWS, 1, CELL, 1, MOST, 0, MUL, 0);
        due("6: result", x.result(), 54);
        due("6: MUL", x.drop(), 6);
        due("6: two numbers", x.whole(), 0);
        due("6: MOST", x.drop(), 5);
        due("6: the number of the block again", x.token(COUNT, 0), -4);
        due("6: CELL", x.drop(), 4);
        due("6: none in the block", x.token(MOST, 0), -4);
        due("6: ROWS", x.drop(), 3);
        due("6: whole again", x.whole(), 1);
        due("6: the result before", x.result(), 6);
        due("6: SUM", x.drop(), 2);
        due("6: the first block is open again", x.token(CELL, 0), 3);
        due("6: both its numbers are there", x.token(ADD, 0), 4);
        due("6: and it ends", x.token(SUM, 0), 5);
        due("6: another result", x.result(), 11);
        for (int left = 4; left >= 0; left--) {
            due("6: drop", x.drop(), left);
        }
        due("6: none is left", x.drop(), -1);
        due("6: no block is left open", x.token(CELL, 0), -3);
        due("6: the rows stay", x.rows(0), 1);
        put(x, "6: WHERE", ROWS, 0, CONST, 0, WHERE, 0);
        due("6: drop WHERE", x.drop(), 2);
        due("6: its number is back", x.token(LEAST, 0), 3);
        due("6: and no row is left out", x.reached(2), 1);
    }

    private static void clear() {
        RowQueries x = new RowQueries();
        x.add(2, 1, 1, 1);
        due("7: nothing", x.clear(), 0);
        put(x, "7", CONST, 1, CONST, 2, ROWS, 2, ROWS, 2, CONST, 3);
        due("7: clear", x.clear(), 5);
        due("7: clear again", x.clear(), 0);
        due("7: drop", x.drop(), -1);
        due("7: no block is open", x.token(CELL, 0), -3);
        due("7: no number is there", x.token(NOT, 0), -4);
        due("7: not whole", x.whole(), 0);
        due("7: the rows stay", x.rows(2), 1);
        due("7: the first token", x.token(CONST, 4), 1);
        due("7: result", x.result(), 4);
    }

    private static void rows() {
        RowQueries x = new RowQueries();
        x.add(1, 0, 0, 0);
        x.add(2, 0, 0, 0);
        x.add(2, 0, 0, 0);
        due("8: rows(0)", x.rows(0), 0);
        due("8: rows(1)", x.rows(1), 1);
        due("8: rows(2)", x.rows(2), 2);
        for (int table : new int[] {-1, 3, MIN, MAX}) {
            due("8: no table", x.rows(table), -1);
        }
    }

    private static void cell() {
        RowQueries x = new RowQueries();
        x.add(0, 1, 2, 3);
        x.add(0, MIN, MAX, 6);
        x.add(1, 7, 8, 9);
        due("9: cell", x.cell(0, 0, 2), 3);
        due("9: least int", x.cell(0, 1, 0), MIN);
        due("9: greatest int", x.cell(0, 1, 1), MAX);
        due("9: another table", x.cell(1, 0, 0), 7);
        for (int off : new int[] {-1, 3, 6, MIN, MAX}) {
            due("9: table off", x.cell(off, 0, 0), 0);
            due("9: row off", x.cell(0, off, 0), 0);
            due("9: column off", x.cell(0, 0, off), 0);
        }
        due("9: row 2", x.cell(0, 2, 0), 0);
        due("9: remove", x.remove(0, 1), 1);
        due("9: the row is gone", x.cell(0, 1, 0), 0);
    }

    private static void whole() {
        RowQueries x = new RowQueries();
        due("10: no token", x.whole(), 0);
        put(x, "10", CONST, 0);
        due("10: one number", x.whole(), 1);
        put(x, "10", CONST, 0);
        due("10: two numbers", x.whole(), 0);
        put(x, "10", EQUAL, 0);
        due("10: one again", x.whole(), 1);
        put(x, "10", ROWS, 0);
        due("10: one number and an open block", x.whole(), 0);
        replace(x, "10", ROWS, 0, CONST, 0);
        due("10: one number in an open block", x.whole(), 0);
        put(x, "10", WHERE, 0, ANY, 0);
        due("10: the block has ended", x.whole(), 1);
    }

    private static void twoNumbers() {
        RowQueries x = new RowQueries();
        int[][] rows = {
            // n, m, then what kinds 2 to 8 make of them
            {7, 3, 10, 4, 21, 0, 0, 1, 1},
            {-3, 7, 4, -10, -21, 1, 0, 1, 1},
            {5, 5, 10, 0, 25, 0, 1, 1, 1},
            {0, 5, 5, -5, 0, 1, 0, 0, 1},
            {5, 0, 5, 5, 0, 0, 0, 0, 1},
            {0, 0, 0, 0, 0, 0, 1, 0, 0},
            {MAX, 1, MIN, MAX - 1, MAX, 0, 0, 1, 1},
            {MIN, MAX, -1, 1, MIN, 1, 0, 1, 1},
            {MAX, MIN, -1, -1, MIN, 0, 0, 1, 1},
            {65536, 65536, 131072, 0, 0, 0, 1, 1, 1},
        };
        for (int[] row : rows) {
            x = new RowQueries();
            x.add(0, row[0], row[1], 0);
            for (int kind = ADD; kind <= EITHER; kind++) {
                String what = "11: kind " + kind + " of " + row[0] + " and " + row[1];
                dueResult(x, what, row[kind], ROWS, 0, CELL, 0, CELL, 1, kind, 0, SUM, 0);
            }
        }
        dueResult(x, "11: NOT 0", 1, CONST, 0, NOT, 0);
        dueResult(x, "11: NOT 1", 0, CONST, 1, NOT, 0);
        dueResult(x, "11: NOT -2", 0, CONST, -2, NOT, 0);
        dueResult(x, "11: CONST", -99, CONST, -99);
        dueResult(x, "11: SUB in order", 3, CONST, 9, CONST, 4, CONST, 2, SUB, 0, CONST, 4, ADD, 0, SUB, 0);
    }

    private static void endings() {
        RowQueries x = new RowQueries();
        for (int kind = COUNT; kind <= KINDS; kind++) {
            dueEnding(x, "no rows", kind, 0);
        }
        int[][] firstCells = {{-4}, {-4, -9, -4}, {8, 3, 8, 3, 5, 9}, {MAX, 1, MIN}, {MIN, MIN}, {0, 0, 0}};
        int[][] want = {
            {1, 1, -4, -4, -4, 1},
            {3, 1, -17, -4, -9, 2},
            {6, 1, 36, 9, 3, 4},
            {3, 1, 0, MAX, MIN, 3},
            {2, 1, 0, MIN, MIN, 1},
            {3, 1, 0, 0, 0, 1},
        };
        for (int i = 0; i < want.length; i++) {
            x = new RowQueries();
            for (int a : firstCells[i]) {
                x.add(2, a, 0, 1);
            }
            for (int kind = COUNT; kind <= KINDS; kind++) {
                dueEnding(x, "rows " + i, kind, want[i][kind - COUNT]);
                dueEndingWithAllLeftOut(x, "rows " + i, kind);
            }
        }
    }

    private static void dueEnding(RowQueries x, String what, int kind, int want) {
        if (kind == COUNT || kind == ANY) {
            dueResult(x, "11: " + what + ", kind " + kind, want, ROWS, 2, kind, 0);
        } else {
            dueResult(x, "11: " + what + ", kind " + kind, want, ROWS, 2, CELL, 0, kind, 0);
        }
    }

    private static void dueEndingWithAllLeftOut(RowQueries x, String what, int kind) {
        String name = "11: " + what + ", all left out, kind " + kind;
        if (kind == COUNT || kind == ANY) {
            dueResult(x, name, 0, ROWS, 2, CELL, 1, WHERE, 0, kind, 0);
        } else {
            dueResult(x, name, 0, ROWS, 2, CELL, 1, WHERE, 0, CELL, 0, kind, 0);
        }
    }

    private static void blocks() {
        RowQueries x = new RowQueries();
        due("11: not whole", x.result(), 0);
        x.add(0, 1, 10, -5);
        x.add(0, 2, 20, -6);
        x.add(0, 3, 30, -5);
        x.add(1, 2, 7, 0);
        x.add(1, 3, 8, 0);
        dueResult(x, "11: two WHERE", 1,
                ROWS, 0, CELL, 0, CONST, 1, SUB, 0, WHERE, 0, CELL, 1, CONST, 25, LESS, 0, WHERE, 0, COUNT, 0);
        dueResult(x, "11: MOST of negative ones with some left out", -6,
                ROWS, 0, CELL, 0, CONST, 2, EQUAL, 0, WHERE, 0, CELL, 2, MOST, 0);
        dueResult(x, "11: LEAST of positive ones with the first left out", 20,
                ROWS, 0, CELL, 0, CONST, 1, SUB, 0, WHERE, 0, CELL, 1, LEAST, 0);
        dueResult(x, "11: WHERE takes any number but 0", 3, ROWS, 0, CELL, 2, WHERE, 0, COUNT, 0);
        dueResult(x, "11: a join", 20 * 7 + 30 * 8,
                ROWS, 0, ROWS, 1, CELL, 0, CELL, 3, EQUAL, 0, WHERE, 0, CELL, 1, CELL, 4, MUL, 0, SUM, 0, SUM, 0);
        dueResult(x, "11: a WHERE within leaves out no row around", 3,
                ROWS, 0, ROWS, 1, CONST, 0, WHERE, 0, ANY, 0, WHERE, 0, COUNT, 0,
                ROWS, 0, ROWS, 1, CONST, 0, WHERE, 0, COUNT, 0, NOT, 0, SUM, 0, ADD, 0);
        dueResult(x, "11: rows with a partner", 2,
                ROWS, 0, ROWS, 1, CELL, 0, CELL, 3, EQUAL, 0, WHERE, 0, ANY, 0, WHERE, 0, COUNT, 0);
        dueResult(x, "11: the same table in three blocks", 8 * 6,
                ROWS, 1, ROWS, 1, ROWS, 1, CELL, 0, CELL, 3, MUL, 0, CELL, 6, MUL, 0, SUM, 0, SUM, 0, SUM, 0,
                CONST, 77, SUB, 0);
        dueResult(x, "11: numbers from before the block stay", 5 * (60 - 4),
                CONST, 5, ROWS, 0, CELL, 1, SUM, 0, CONST, 4, SUB, 0, MUL, 0);
        dueResult(x, "11: numbers of the block around stay", 1 * 2 + 2 * 2 + 3 * 2,
                ROWS, 0, CELL, 0, ROWS, 1, COUNT, 0, MUL, 0, SUM, 0);
        dueResult(x, "11: KINDS within KINDS", 2,
                ROWS, 0, CELL, 2, ROWS, 1, CELL, 0, KINDS, 0, MUL, 0, KINDS, 0);
        due("11: questions change nothing", x.result(), 2);
        dueResult(x, "11: an empty block within", 3, ROWS, 0, ROWS, 2, ROWS, 1, COUNT, 0, SUM, 0, NOT, 0, SUM, 0);
    }

    private static void reached() {
        RowQueries x = new RowQueries();
        due("12: no token", x.reached(0), -1);
        due("12: not whole, no such token", x.reached(5), -1);
        put(x, "12", ROWS, 0);
        due("12: open", x.reached(0), -1);
        put(x, "12", COUNT, 0);
        dueReached(x, "12: no rows", 1, 0);
        due("12: token -1", x.reached(-1), -2);
        due("12: far off", x.reached(MAX), -2);
        due("12: far below", x.reached(MIN), -2);
        for (int n = 0; n < 4; n++) {
            x.add(0, n, n % 2, 0);
        }
        x.add(1, 1, 0, 0);
        x.add(1, 3, 0, 0);
        dueReached(x, "12: four rows", 1, 4);
        replace(x, "12", CONST, 3, ROWS, 0, CELL, 0, WHERE, 0, CELL, 1, NOT, 0, WHERE, 0, CELL, 0, SUM, 0, ADD, 0);
        dueReached(x, "12: two WHERE", 1, 1, 4, 4, 3, 3, 3, 1, 1, 1);
        replace(x, "12", ROWS, 0, CELL, 1, WHERE, 0, ROWS, 1, CELL, 0, CELL, 3, EQUAL, 0, WHERE, 0, COUNT, 0,
                NOT, 0, WHERE, 0, ANY, 0, NOT, 0);
        dueReached(x, "12: a block within", 1, 4, 4, 2, 4, 4, 4, 4, 2, 2, 2, 0, 1);
        due("12: again", x.reached(4), 4);
        replace(x, "12", ROWS, 0, ROWS, 2, ROWS, 1, CONST, 1, SUM, 0, SUM, 0, SUM, 0);
        dueReached(x, "12: an empty block within", 1, 4, 0, 0, 0, 0, 4);
        x.token(CONST, 0);
        due("12: two numbers", x.reached(0), -1);
    }

    private static void without() {
        RowQueries x = new RowQueries();
        x.add(0, 1, 0, 0);
        x.add(0, 10, 0, 0);
        x.add(0, 50, 0, 0);
        x.add(1, 7, 0, 0);
        due("13: no program", x.without(0, 0), 0);
        put(x, "13", ROWS, 0, CELL, 0, SUM, 0, CONST, 5, ADD, 0);
        due("13: the first", x.without(0, 0), 65);
        due("13: one within", x.without(0, 1), 56);
        due("13: the last", x.without(0, 2), 16);
        due("13: another table's", x.without(1, 0), 66);
        due("13: no row 3", x.without(0, 3), 0);
        due("13: no row 1 there", x.without(1, 1), 0);
        due("13: an empty table's", x.without(2, 0), 0);
        due("13: row -1", x.without(0, -1), 0);
        due("13: row far off", x.without(0, MAX), 0);
        due("13: table -1", x.without(-1, -1), 0);
        due("13: table 3", x.without(3, 0), 0);
        due("13: the rows stay", x.rows(0), 3);
        due("13: the result stays", x.result(), 66);
        due("13: reached stays", x.reached(1), 3);
        replace(x, "13", ROWS, 0, ROWS, 0, CELL, 0, CELL, 3, LESS, 0, WHERE, 0, COUNT, 0, SUM, 0);
        due("13: in both blocks", x.result(), 3);
        due("13: gone from both blocks", x.without(0, 1), 1);
        replace(x, "13", ROWS, 1, CELL, 0, LEAST, 0);
        due("13: the only row", x.without(1, 0), 0);
        due("13: which is still there", x.result(), 7);
        x.token(CONST, 1);
        due("13: not whole", x.without(0, 0), 0);
    }

    private static void greatestWork() {
        RowQueries x = new RowQueries();
        for (int n = 0; n < 6; n++) {
            for (int table = 0; table < 3; table++) {
                x.add(table, 1, 1, 1);
            }
        }
        put(x, "12: full", ROWS, 0, ROWS, 1, ROWS, 2, CONST, 1);
        for (int n = 4; n < 44; n++) {
            x.token(NOT, 0);
        }
        put(x, "12: full", SUM, 0, SUM, 0, SUM, 0, NOT, 0);
        due("11: the longest program over full tables", x.result(), 0);
        due("12: its last token within", x.reached(44), 216);
        due("12: its last token", x.reached(47), 1);
        due("6: drop", x.drop(), 47);
        due("11: the sum over 216", x.result(), 216);
    }

    public static void main(String[] args) {
        newObject();
        add();
        remove();
        store();
        tokenOperands();
        tokenNeeds();
        tokenRoom();
        tokenCount();
        drop();
        clear();
        rows();
        cell();
        whole();
        twoNumbers();
        endings();
        blocks();
        reached();
        without();
        greatestWork();
        System.out.println(wrong == 0 ? "all answers are as due" : wrong + " answers are not as due");
        if (wrong != 0) {
            System.exit(1);
        }
    }
}
