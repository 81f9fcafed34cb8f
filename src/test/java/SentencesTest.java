import java.io.IOException;
import java.nio.file.Files;
import java.nio.file.Path;
import java.util.ArrayList;
import java.util.LinkedHashMap;
import java.util.List;
import java.util.Map;
import java.util.function.Consumer;
import java.util.function.ToIntFunction;

/**
 * The document sentence by sentence: each test quotes its sentence and looks at the boundary cases in
 * it (too small, too large, empty, full, a wrap-around, a refused call).
 */
public final class SentencesTest {
    private static final int CONST = 0, CELL = 1, ADD = 2, SUB = 3, MUL = 4, LESS = 5, EQUAL = 6,
            BOTH = 7, EITHER = 8, NOT = 9, ROWS = 10, WHERE = 11, COUNT = 12, ANY = 13, SUM = 14,
            MOST = 15, LEAST = 16, KINDS = 17;
    private static final int MIN = Integer.MIN_VALUE, MAX = Integer.MAX_VALUE;
    private static final int[] NOT_0_TO_2 = {-1, 3, -3, 6, MIN, MAX};
    private static final int MAX_CALLS = 512;

    private static final Path DOCUMENT = Path.of("../shared/DOC.md");
    private static final Map<String, List<String>> QUOTES = new LinkedHashMap<>();

    private static String sentence = "";
    private static int looks = 0;
    private static int wrong = 0;

    // ---- what every test uses

    private static void test(String heading, String quote, Runnable body) {
        QUOTES.computeIfAbsent(heading, h -> new ArrayList<>()).add(quote);
        sentence = heading + ", \"" + quote + "\"";
        int before = looks;
        try {
            body.run();
        } catch (RuntimeException e) {
            tell("a call ended with " + e);
        }
        if (looks == before) {
            tell("its test looks at no answer");
        }
    }

    private static void tell(String what) {
        wrong++;
        System.out.println(sentence + ": " + what);
    }

    private static void due(String what, int got, int want) {
        looks++;
        if (got != want) {
            tell(what + " answered " + got + ", due is " + want);
        }
    }

    /** Puts tokens, given as kind, a, kind, a ..; each of them has to be taken. */
    private static void put(RowQueries x, int... kindsAndOperands) {
        for (int i = 0; i < kindsAndOperands.length; i += 2) {
            int answer = x.token(kindsAndOperands[i], kindsAndOperands[i + 1]);
            if (answer < 1) {
                tell("token(" + kindsAndOperands[i] + ", " + kindsAndOperands[i + 1] + ") answered " + answer);
            }
        }
    }

    private static RowQueries program(int... kindsAndOperands) {
        RowQueries x = new RowQueries();
        put(x, kindsAndOperands);
        return x;
    }

    private static RowQueries firstCells(int table, int... cells) {
        RowQueries x = new RowQueries();
        for (int a : cells) {
            x.add(table, a, 0, 1);
        }
        return x;
    }

    private static void dueResult(String what, RowQueries x, int want, int... kindsAndOperands) {
        x.clear();
        put(x, kindsAndOperands);
        due(what + ": whole()", x.whole(), 1);
        due(what + ": result()", x.result(), want);
    }

    private static void dueReached(String what, RowQueries x, int... want) {
        for (int i = 0; i < want.length; i++) {
            due(what + ": reached(" + i + ")", x.reached(i), want[i]);
        }
    }

    /** Tables with different cells throughout: 2, 6 (full) and 0 (empty) rows. */
    private static void someRows(RowQueries x) {
        for (int row = 0; row < 6; row++) {
            x.add(1, 100 + row, 200 + 3 * row, 300 + 7 * row);
        }
        x.add(0, 11, 17, 23);
        x.add(0, 31, 41, 59);
    }

    private static final class Watched {
        final RowQueries x;
        final List<Integer> answers = new ArrayList<>();

        Watched(RowQueries x) {
            this.x = x;
        }

        int note(int answer) {
            answers.add(answer);
            if (answers.size() > MAX_CALLS - 120) {
                throw new IllegalStateException("the test asks more of an object than the document allows");
            }
            return answer;
        }

        void noteTables() {
            for (int table = 0; table < 3; table++) {
                int rows = note(x.rows(table));
                for (int i = 0; i < 3 * rows; i++) {
                    note(x.cell(table, i / 3, i % 3));
                }
            }
        }

        boolean isWhole() {
            return note(x.whole()) == 1;
        }

        /** Makes the program whole with tokens chosen by their answers alone, or by dropping some. */
        void makeWhole() {
            for (int i = 0; i < 20 && !isWhole(); i++) {
                boolean taken = note(x.token(ADD, 0)) > 0 || note(x.token(SUM, 0)) > 0 || note(x.token(COUNT, 0)) > 0;
                if (!taken) {
                    note(x.drop());
                }
            }
        }

        void noteProgram() {
            note(x.result());
            int i = 0;
            while (note(x.reached(i)) >= 0) {
                i++;
            }
            while (note(x.drop()) >= 0) {
                note(x.result());
            }
        }
    }

    /** All that can be seen of an object, its unfinished program too; the program is gone after it. */
    private static List<Integer> picture(RowQueries x) {
        Watched watched = new Watched(x);
        watched.noteTables();
        watched.makeWhole();
        watched.noteProgram();
        return watched.answers;
    }

    private static void dueSame(String what, RowQueries x, RowQueries y) {
        looks++;
        if (!picture(x).equals(picture(y))) {
            tell(what + " changes what is seen afterwards");
        }
    }

    private static void dueRefused(String what, Consumer<RowQueries> before, ToIntFunction<RowQueries> call, int refusal) {
        RowQueries x = new RowQueries();
        RowQueries y = new RowQueries();
        before.accept(x);
        before.accept(y);
        due(what, call.applyAsInt(y), refusal);
        due(what + ", again", call.applyAsInt(y), refusal);
        dueSame(what, x, y);
    }

    // ---- What it is

    private static void lastCall() {
        RowQueries x = new RowQueries();
        for (int pair = 0; pair < 255; pair++) {
            due("call " + (2 * pair + 1), x.token(CONST, 7), 1);
            due("call " + (2 * pair + 2), x.drop(), 0);
        }
        due("call 511", x.token(CONST, 7), 1);
        due("call 512", x.result(), 7);
    }

    private static void lastCallOfRefusedOnes() {
        RowQueries x = new RowQueries();
        x.add(0, 5, 6, 7);
        for (int call = 2; call < 512; call++) {
            due("call " + call, x.remove(0, 1), -2);
        }
        due("call 512", x.cell(0, 0, 2), 7);
    }

    // ---- Terms: tables

    private static void threeTables() {
        RowQueries x = new RowQueries();
        for (int table = 0; table < 3; table++) {
            due("add to table " + table, x.add(table, 10 + table, 0, 0), 1);
        }
        for (int table = 0; table < 3; table++) {
            due("cell of table " + table, x.cell(table, 0, 0), 10 + table);
        }
        due("add to table -1", x.add(-1, 0, 0, 0), -1);
        due("add to table 3", x.add(3, 0, 0, 0), -1);
    }

    private static void atMostSixRows() {
        for (int table = 0; table < 3; table++) {
            RowQueries x = firstCells(table, 1, 2, 3, 4, 5, 6);
            due("rows of a full table", x.rows(table), 6);
            due("the seventh row", x.add(table, 7, 7, 7), -2);
            for (int row = 0; row < 6; row++) {
                due("row " + row, x.cell(table, row, 0), row + 1);
            }
            for (int other = 0; other < 3; other++) {
                due("rows of table " + other, x.rows(other), other == table ? 6 : 0);
            }
        }
    }

    private static void threeCells() {
        int[][] rows = {{MIN, MAX, 0}, {MAX, 0, MIN}, {0, MIN, MAX}, {-1, 1, 65536}, {1, -65537, -1}};
        RowQueries x = new RowQueries();
        for (int[] row : rows) {
            x.add(1, row[0], row[1], row[2]);
        }
        for (int row = 0; row < rows.length; row++) {
            for (int column = 0; column < 3; column++) {
                due("cell in column " + column, x.cell(1, row, column), rows[row][column]);
            }
            due("column -1", x.cell(1, row, -1), 0);
            due("column 3", x.cell(1, row, 3), 0);
        }
    }

    private static void wraps() {
        int[][] cases = {
            {ADD, MAX, 1, MIN}, {ADD, MIN, -1, MAX}, {ADD, MAX, MAX, -2}, {ADD, MIN, MIN, 0}, {ADD, MIN, MAX, -1},
            {SUB, MIN, 1, MAX}, {SUB, MAX, -1, MIN}, {SUB, 0, MIN, MIN}, {SUB, MIN, MAX, 1}, {SUB, MAX, MIN, -1},
            {MUL, 65536, 65536, 0}, {MUL, MIN, -1, MIN}, {MUL, MAX, MAX, 1}, {MUL, MAX, 2, -2}, {MUL, MIN, MIN, 0},
            {MUL, 65536, 32768, MIN}, {MUL, 46341, 46341, -2147479015},
        };
        for (int[] c : cases) {
            dueTwo(c[0], c[1], c[2], c[3]);
        }
        dueResult("SUM of MAX, 1", firstCells(0, MAX, 1), MIN, ROWS, 0, CELL, 0, SUM, 0);
        dueResult("SUM of MIN, -1", firstCells(0, MIN, -1), MAX, ROWS, 0, CELL, 0, SUM, 0);
        dueResult("SUM of MAX, 1, -1", firstCells(0, MAX, 1, -1), MAX, ROWS, 0, CELL, 0, SUM, 0);
        RowQueries six = firstCells(0, MAX, MAX, MAX, MAX, MAX, MAX);
        dueResult("SUM of six MAX", six, -6, ROWS, 0, CELL, 0, SUM, 0);
        due("SUM of six MAX: without(0, 5)", six.without(0, 5), MAX - 4);
        due("SUM of six MAX: store", six.store(0, 5, 1), 1);
        due("SUM of six MAX: cell", six.cell(0, 5, 1), -6);
    }

    private static void dueTwo(int kind, int n, int m, int want) {
        RowQueries x = new RowQueries();
        x.add(0, n, m, 0);
        dueResult("kind " + kind + " of " + n + " and " + m, x, want, ROWS, 0, CELL, 0, CELL, 1, kind, 0, SUM, 0);
    }

    // ---- Terms: programs

    private static RowQueries fullProgram() {
        RowQueries x = program(CONST, 0);
        for (int n = 2; n <= 48; n++) {
            x.token(NOT, 0);
        }
        return x;
    }

    private static void atMost48Tokens() {
        RowQueries x = program(CONST, 0);
        for (int n = 2; n <= 48; n++) {
            due("token " + n, x.token(NOT, 0), n);
        }
        due("token 49", x.token(NOT, 0), -2);
        due("result of 48 tokens", x.result(), 1);
        due("tokens", x.clear(), 48);
    }

    private static void atMostSixNumbers() {
        RowQueries x = program(CONST, 1, CONST, 2, CONST, 4, CONST, 8, CONST, 16);
        due("the sixth number", x.token(CONST, 32), 6);
        due("the seventh number", x.token(CONST, 64), -5);
        put(x, SUB, 0, SUB, 0, SUB, 0, SUB, 0, SUB, 0);
        due("1 - (2 - (4 - (8 - (16 - 32))))", x.result(), -21);
    }

    private static void topIsTheSecond() {
        dueResult("9 - 4", new RowQueries(), 5, CONST, 9, CONST, 4, SUB, 0);
        dueResult("4 - 9", new RowQueries(), -5, CONST, 4, CONST, 9, SUB, 0);
        dueResult("4 less than 9", new RowQueries(), 1, CONST, 4, CONST, 9, LESS, 0);
        dueResult("9 less than 4", new RowQueries(), 0, CONST, 9, CONST, 4, LESS, 0);
        dueResult("50 - (9 - 4)", new RowQueries(), 45, CONST, 50, CONST, 9, CONST, 4, SUB, 0, SUB, 0);
    }

    private static void constNumbers() {
        for (int a = -99; a <= 99; a += 33) {
            dueResult("CONST " + a, new RowQueries(), a, CONST, a);
        }
        for (int a : new int[] {-100, 100, 127, 128, MIN, MAX}) {
            due("CONST " + a, new RowQueries().token(CONST, a), -1);
        }
    }

    private static void cellsOfBlocks() {
        RowQueries x = new RowQueries();
        for (int table = 0; table < 3; table++) {
            x.add(table, 10 * table + 1, 10 * table + 2, 10 * table + 3);
        }
        for (int a = 0; a <= 8; a++) {
            int want = 10 * (2 - a / 3) + a % 3 + 1;
            dueResult("CELL " + a, x, want, ROWS, 2, ROWS, 1, ROWS, 0, CELL, a, SUM, 0, SUM, 0, SUM, 0);
        }
        for (int a : new int[] {-1, 9, MIN, MAX}) {
            due("CELL " + a, program(ROWS, 0, ROWS, 0, ROWS, 0).token(CELL, a), -1);
        }
        RowQueries y = firstCells(0, 1, 10, 50);
        dueResult("pairs of rows", y, 1 * 61 + 10 * 61 + 50 * 61,
                ROWS, 0, ROWS, 0, CELL, 0, CELL, 3, MUL, 0, SUM, 0, SUM, 0);
        dueResult("rows of block 0 alone", y, 3 * 61, ROWS, 0, ROWS, 0, CELL, 0, SUM, 0, SUM, 0);
        dueResult("block 0 again after block 1", y, 61, ROWS, 0, ROWS, 0, COUNT, 0, CELL, 0, MUL, 0, SUM, 0,
                CONST, 61, CONST, 2, MUL, 0, SUB, 0);
    }

    private static void sumsAndProducts() {
        int[][] cases = {{0, 0, 0, 0, 0}, {7, 3, 10, 4, 21}, {3, 7, 10, -4, 21}, {-7, 3, -4, -10, -21},
            {-7, -3, -10, -4, 21}, {0, 9, 9, -9, 0}, {9, 0, 9, 9, 0}, {MAX, 0, MAX, MAX, 0}, {MIN, 1, MIN + 1, MAX, MIN}};
        for (int[] c : cases) {
            dueTwo(ADD, c[0], c[1], c[2]);
            dueTwo(SUB, c[0], c[1], c[3]);
            dueTwo(MUL, c[0], c[1], c[4]);
        }
    }

    private static void less() {
        int[] ordered = {MIN, MIN + 1, -65536, -1, 0, 1, 65536, MAX - 1, MAX};
        for (int i = 0; i < ordered.length; i++) {
            for (int j = 0; j < ordered.length; j++) {
                dueTwo(LESS, ordered[i], ordered[j], i < j ? 1 : 0);
            }
        }
    }

    private static void equal() {
        int[] different = {MIN, -65536, -1, 0, 1, 65536, MAX};
        for (int i = 0; i < different.length; i++) {
            for (int j = 0; j < different.length; j++) {
                dueTwo(EQUAL, different[i], different[j], i == j ? 1 : 0);
            }
        }
    }

    private static final int[] NOT_ZERO = {1, -1, 2, -2, 65536, MIN, MAX};

    private static void both() {
        dueTwo(BOTH, 0, 0, 0);
        for (int n : NOT_ZERO) {
            dueTwo(BOTH, n, 0, 0);
            dueTwo(BOTH, 0, n, 0);
            dueTwo(BOTH, n, n, 1);
            dueTwo(BOTH, n, -2, 1);
            dueTwo(BOTH, 1, n, 1);
        }
    }

    private static void either() {
        dueTwo(EITHER, 0, 0, 0);
        for (int n : NOT_ZERO) {
            dueTwo(EITHER, n, 0, 1);
            dueTwo(EITHER, 0, n, 1);
            dueTwo(EITHER, n, n, 1);
            dueTwo(EITHER, n, -n, 1);
        }
    }

    private static void not() {
        dueResult("NOT 0", firstCells(0, 0), 1, ROWS, 0, CELL, 0, NOT, 0, SUM, 0);
        for (int n : NOT_ZERO) {
            dueResult("NOT " + n, firstCells(0, n), 0, ROWS, 0, CELL, 0, NOT, 0, SUM, 0);
        }
    }

    private static void rowsOfTables() {
        RowQueries x = new RowQueries();
        for (int table = 0; table < 3; table++) {
            for (int n = 0; n < 2 * table + 1; n++) {
                x.add(table, 0, 0, 0);
            }
        }
        for (int table = 0; table < 3; table++) {
            dueResult("ROWS " + table, x, 2 * table + 1, ROWS, table, COUNT, 0);
        }
        for (int table : NOT_0_TO_2) {
            due("ROWS " + table, x.token(ROWS, table), -1);
        }
    }

    private static void where() {
        dueResult("WHERE 0", firstCells(0, 0), 0, ROWS, 0, CELL, 0, WHERE, 0, COUNT, 0);
        for (int n : NOT_ZERO) {
            dueResult("WHERE " + n, firstCells(0, n), 1, ROWS, 0, CELL, 0, WHERE, 0, COUNT, 0);
        }
        RowQueries x = firstCells(0, 1, 0, 1);
        dueResult("a row of the inner block", x, 3, ROWS, 0, ROWS, 0, CONST, 0, WHERE, 0, COUNT, 0, NOT, 0, SUM, 0);
        dueResult("a row of the outer block", x, 2, ROWS, 0, CELL, 0, WHERE, 0, ROWS, 0, COUNT, 0, CONST, 3, EQUAL, 0, SUM, 0);
        dueResult("inner rows by an outer cell", x, 6, ROWS, 0, ROWS, 0, CELL, 0, WHERE, 0, COUNT, 0, SUM, 0);
        dueResult("the outer block once more", x, 2, ROWS, 0, ROWS, 0, CONST, 0, WHERE, 0, ANY, 0, CELL, 0, ADD, 0, WHERE, 0, COUNT, 0);
    }

    // ---- Terms: the ends of blocks

    private static void dueEnd(String what, RowQueries x, int kind, int want) {
        if (kind == COUNT || kind == ANY) {
            dueResult(what, x, want, ROWS, 2, kind, 0);
        } else {
            dueResult(what, x, want, ROWS, 2, CELL, 0, kind, 0);
        }
    }

    private static void dueWithoutAny(int kind, int want) {
        dueEnd("an empty table", new RowQueries(), kind, want);
        RowQueries x = firstCells(2, 5, -6, 7);
        if (kind == COUNT || kind == ANY) {
            dueResult("all left out", x, want, ROWS, 2, CELL, 1, WHERE, 0, kind, 0);
        } else {
            dueResult("all left out", x, want, ROWS, 2, CELL, 1, WHERE, 0, CELL, 0, kind, 0);
        }
        dueEnd("the only row", firstCells(2, 0), kind, kind == COUNT || kind == ANY || kind == KINDS ? 1 : 0);
    }

    /** Leaves the rows with the cell 9 out. */
    private static void dueWithout9(RowQueries x, int kind, int want) {
        if (kind == COUNT || kind == ANY) {
            dueResult("without 9", x, want, ROWS, 2, CELL, 0, CONST, 9, SUB, 0, WHERE, 0, kind, 0);
        } else {
            dueResult("without 9", x, want, ROWS, 2, CELL, 0, CONST, 9, SUB, 0, WHERE, 0, CELL, 0, kind, 0);
        }
    }

    private static void count() {
        dueWithoutAny(COUNT, 0);
        dueEnd("six rows", firstCells(2, 0, 0, 0, 0, 0, 0), COUNT, 6);
        dueWithout9(firstCells(2, 9, 1, 9, 1, 9), COUNT, 2);
    }

    private static void any() {
        dueWithoutAny(ANY, 0);
        dueEnd("six rows", firstCells(2, 0, 0, 0, 0, 0, 0), ANY, 1);
        dueWithout9(firstCells(2, 9, 9, 9, 9, 9, 9), ANY, 0);
        dueWithout9(firstCells(2, 9, 9, 9, 9, 9, 0), ANY, 1);
        dueWithout9(firstCells(2, 0, 9, 9, 9, 9, 9), ANY, 1);
    }

    private static void sum() {
        dueWithoutAny(SUM, 0);
        dueEnd("six rows", firstCells(2, 1, 2, 4, 8, 16, 32), SUM, 63);
        dueEnd("-4 and 3", firstCells(2, -4, 3), SUM, -1);
        dueWithout9(firstCells(2, 9, 1, 9, 2, 9), SUM, 3);
    }

    private static void most() {
        dueWithoutAny(MOST, 0);
        dueEnd("less than 0 all", firstCells(2, -5, -4, -6), MOST, -4);
        dueEnd("the first", firstCells(2, 7, 1, 2, 3, 4, 5), MOST, 7);
        dueEnd("the last", firstCells(2, 1, 2, 3, 4, 5, 7), MOST, 7);
        dueEnd("MIN alone", firstCells(2, MIN, MIN), MOST, MIN);
        dueEnd("MIN and MAX", firstCells(2, MIN, MAX, MIN), MOST, MAX);
        dueWithout9(firstCells(2, 9, -3, 9, -2, 9), MOST, -2);
    }

    private static void least() {
        dueWithoutAny(LEAST, 0);
        dueEnd("more than 0 all", firstCells(2, 5, 4, 6), LEAST, 4);
        dueEnd("the first", firstCells(2, -7, 1, 2, 3, 4, 5), LEAST, -7);
        dueEnd("the last", firstCells(2, 5, 4, 3, 2, 1, -7), LEAST, -7);
        dueEnd("MAX alone", firstCells(2, MAX, MAX), LEAST, MAX);
        dueEnd("MIN and MAX", firstCells(2, MAX, MIN, MAX), LEAST, MIN);
        dueWithout9(firstCells(2, 9, 30, 9, 20, 9), LEAST, 20);
    }

    private static void kinds() {
        dueWithoutAny(KINDS, 0);
        dueEnd("six alike", firstCells(2, 8, 8, 8, 8, 8, 8), KINDS, 1);
        dueEnd("six different ones", firstCells(2, MIN, -1, 0, 1, 65536, MAX), KINDS, 6);
        dueEnd("one of them again at the end", firstCells(2, 3, 4, 5, 6, 7, 3), KINDS, 5);
        dueEnd("0 and others", firstCells(2, 0, 1, 0, 1), KINDS, 2);
        dueWithout9(firstCells(2, 9, 1, 9, 2, 1), KINDS, 2);
        dueResult("anew for each row around", firstCells(2, 1, 2, 3), 9, ROWS, 2, ROWS, 2, CELL, 3, KINDS, 0, SUM, 0);
    }

    // ---- Terms: blocks

    private static void atMostThreeBlocks() {
        RowQueries x = new RowQueries();
        for (int open = 0; open < 3; open++) {
            due("ROWS with " + open + " open", x.token(ROWS, 0), open + 1);
        }
        due("ROWS with three open", x.token(ROWS, 0), -5);
        put(x, COUNT, 0);
        due("ROWS after one has ended", x.token(ROWS, 1), 5);
        due("ROWS with three open again", x.token(ROWS, 1), -5);
        RowQueries y = new RowQueries();
        for (int n = 1; n <= 5; n++) {
            due("block after block", y.token(ROWS, 0), 2 * n - 1);
            due("the end of it", y.token(COUNT, 0), 2 * n);
        }
    }

    private static void numbersOfBlocks() {
        RowQueries x = new RowQueries();
        x.add(0, 1, 0, 0);
        x.add(1, 10, 0, 0);
        x.add(2, 50, 0, 0);
        dueResult("0, 1 and 2", x, 1 + 20 + 200, ROWS, 0, ROWS, 1, ROWS, 2, CELL, 0, CELL, 3, CONST, 2, MUL, 0, ADD, 0,
                CELL, 6, CONST, 4, MUL, 0, ADD, 0, SUM, 0, SUM, 0, SUM, 0);
        dueResult("1 once more", x, 10 * 50, ROWS, 0, ROWS, 1, CELL, 3, SUM, 0, ROWS, 2, CELL, 3, SUM, 0, MUL, 0, SUM, 0);
        dueResult("0 once more", x, 1 - 50, ROWS, 0, CELL, 0, SUM, 0, ROWS, 2, CELL, 0, SUM, 0, SUB, 0);
    }

    private static void blocksGoThroughTheirRows() {
        RowQueries x = program(ROWS, 0, ROWS, 1, ROWS, 0, CONST, 1, SUM, 0, SUM, 0, SUM, 0);
        due("no rows", x.result(), 0);
        dueReached("no rows", x, 1, 0, 0, 0, 0, 0, 0);
        x.add(0, 0, 0, 0);
        dueReached("no rows within", x, 1, 1, 0, 0, 0, 0, 1);
        for (int n = 1; n < 6; n++) {
            x.add(0, 0, 0, 0);
        }
        for (int n = 0; n < 6; n++) {
            x.add(1, 0, 0, 0);
        }
        due("full tables", x.result(), 216);
        dueReached("full tables", x, 1, 6, 36, 216, 216, 36, 6);
        dueResult("each row", firstCells(1, 1, 2, 4, 8, 16, 32), 63, ROWS, 1, CELL, 0, SUM, 0);
    }

    private static void leftOutRows() {
        RowQueries x = firstCells(0, 0, 1, 0, 2);
        put(x, ROWS, 0, CELL, 0, WHERE, 0, CELL, 0, CONST, 1, SUB, 0, WHERE, 0, ROWS, 0, COUNT, 0, SUM, 0);
        due("two WHERE", x.result(), 4);
        dueReached("two WHERE", x, 1, 4, 4, 2, 2, 2, 2, 1, 4, 1);
        x.clear();
        put(x, ROWS, 0, CONST, 0, WHERE, 0, CELL, 0, MOST, 0, CONST, 7, ADD, 0);
        due("the ending one's result, all left out", x.result(), 7);
        dueReached("all left out", x, 1, 4, 4, 0, 0, 1, 1);
        x.clear();
        put(x, ROWS, 0, ROWS, 0, CELL, 3, WHERE, 0, CONST, 1, SUM, 0, WHERE, 0, COUNT, 0);
        due("the block around goes on", x.result(), 4);
        dueReached("the block around goes on", x, 1, 4, 16, 16, 8, 8, 4, 4);
    }

    private static void numbersBeforeBlock() {
        for (int kind = ADD; kind <= KINDS; kind++) {
            boolean needsNumbers = kind != ROWS && kind != COUNT && kind != ANY;
            if (needsNumbers) {
                due("kind " + kind + ", two before the block", program(CONST, 1, CONST, 2, ROWS, 0).token(kind, 0), -4);
            }
        }
        for (int kind = ADD; kind <= EITHER; kind++) {
            due("kind " + kind + ", one before the block", program(CONST, 1, ROWS, 0, CONST, 2).token(kind, 0), -4);
            RowQueries within = program(ROWS, 0, CONST, 1, ROWS, 0, CONST, 2);
            due("kind " + kind + ", one before the inner block", within.token(kind, 0), -4);
        }
        dueResult("they stay for after it", firstCells(0, 3, 4), 90 - 7, CONST, 90, ROWS, 0, CELL, 0, SUM, 0, SUB, 0);
    }

    private static void numbersAtAnEnd() {
        for (int kind = WHERE; kind <= KINDS; kind++) {
            boolean wantsNone = kind == COUNT || kind == ANY;
            String what = "kind " + kind;
            due(what + " on none", program(ROWS, 0).token(kind, 0), wantsNone ? 2 : -4);
            due(what + " on one", program(ROWS, 0, CONST, 1).token(kind, 0), wantsNone ? -4 : 3);
            due(what + " on two", program(ROWS, 0, CONST, 1, CONST, 1).token(kind, 0), -4);
            due(what + " on none, one before", program(CONST, 1, ROWS, 0).token(kind, 0), wantsNone ? 3 : -4);
            due(what + " on one, one before", program(CONST, 1, ROWS, 0, CONST, 1).token(kind, 0), wantsNone ? -4 : 4);
        }
    }

    private static void wholePrograms() {
        due("no token", new RowQueries().whole(), 0);
        due("one number", program(CONST, 0).whole(), 1);
        due("two numbers", program(CONST, 1, CONST, 2).whole(), 0);
        due("six numbers", program(CONST, 1, CONST, 1, CONST, 1, CONST, 1, CONST, 1, CONST, 1).whole(), 0);
        due("an open block", program(ROWS, 0).whole(), 0);
        due("one number, then an open block", program(CONST, 1, ROWS, 0).whole(), 0);
        due("one number in an open block", program(ROWS, 0, CONST, 1).whole(), 0);
        due("an open block around an ended one", program(ROWS, 0, ROWS, 0, COUNT, 0).whole(), 0);
        due("an ended block", program(ROWS, 0, COUNT, 0).whole(), 1);
        due("two ended blocks", program(ROWS, 0, COUNT, 0, ROWS, 0, ANY, 0).whole(), 0);
        due("the number is the result", program(CONST, -42).result(), -42);
    }

    // ---- Terms: calls

    private static void openProgram(RowQueries x) {
        someRows(x);
        put(x, CONST, 3, ROWS, 1, CELL, 1, ROWS, 0, CELL, 2, WHERE, 0, CELL, 3, CELL, 0);
    }

    private static void wholeProgram(RowQueries x) {
        openProgram(x);
        put(x, MUL, 0, SUM, 0, ADD, 0, MOST, 0, MUL, 0);
    }

    private static void fullStack(RowQueries x) {
        someRows(x);
        put(x, CONST, 2, CONST, 3, ROWS, 1, CELL, 0, CELL, 1, ROWS, 0, CELL, 3, CELL, 4);
    }

    private static void longProgram(RowQueries x) {
        someRows(x);
        put(x, ROWS, 1, CELL, 2);
        for (int n = 3; n <= 47; n++) {
            put(x, NOT, 0);
        }
        put(x, LEAST, 0);
    }

    private static void refusedRows() {
        dueRefused("add(-1, ..)", SentencesTest::wholeProgram, x -> x.add(-1, 5, 5, 5), -1);
        dueRefused("add(3, ..)", SentencesTest::wholeProgram, x -> x.add(3, 5, 5, 5), -1);
        dueRefused("add(1, ..)", SentencesTest::wholeProgram, x -> x.add(1, 5, 5, 5), -2);
        dueRefused("remove(-1, 0)", SentencesTest::wholeProgram, x -> x.remove(-1, 0), -1);
        dueRefused("remove(3, 0)", SentencesTest::wholeProgram, x -> x.remove(3, 0), -1);
        dueRefused("remove(0, 2)", SentencesTest::wholeProgram, x -> x.remove(0, 2), -2);
        dueRefused("remove(0, -1)", SentencesTest::wholeProgram, x -> x.remove(0, -1), -2);
        dueRefused("remove(1, 6)", SentencesTest::wholeProgram, x -> x.remove(1, 6), -2);
        dueRefused("remove(2, 0)", SentencesTest::wholeProgram, x -> x.remove(2, 0), -2);
        dueRefused("store(-1, 0, 0)", SentencesTest::wholeProgram, x -> x.store(-1, 0, 0), -1);
        dueRefused("store(3, 0, 0)", SentencesTest::wholeProgram, x -> x.store(3, 0, 0), -1);
        dueRefused("store(0, 1, 3)", SentencesTest::wholeProgram, x -> x.store(0, 1, 3), -1);
        dueRefused("store(0, 1, -1)", SentencesTest::wholeProgram, x -> x.store(0, 1, -1), -1);
        dueRefused("store(0, 2, 0)", SentencesTest::wholeProgram, x -> x.store(0, 2, 0), -2);
        dueRefused("store(0, -1, 0)", SentencesTest::wholeProgram, x -> x.store(0, -1, 0), -2);
        dueRefused("store(1, 5, 2)", SentencesTest::openProgram, x -> x.store(1, 5, 2), -3);
        dueRefused("store without tokens", SentencesTest::someRows, x -> x.store(0, 1, 1), -3);
    }

    private static void refusedTokens() {
        dueRefused("kind 18", SentencesTest::openProgram, x -> x.token(18, 0), -1);
        dueRefused("kind -1", SentencesTest::openProgram, x -> x.token(-1, 0), -1);
        dueRefused("CONST 100", SentencesTest::openProgram, x -> x.token(CONST, 100), -1);
        dueRefused("CELL 9", SentencesTest::openProgram, x -> x.token(CELL, 9), -1);
        dueRefused("ROWS 3", SentencesTest::openProgram, x -> x.token(ROWS, 3), -1);
        dueRefused("token 49", SentencesTest::longProgram, x -> x.token(CONST, 1), -2);
        dueRefused("CELL 6", SentencesTest::openProgram, x -> x.token(CELL, 6), -3);
        dueRefused("CELL 0", SentencesTest::wholeProgram, x -> x.token(CELL, 0), -3);
        for (int kind = WHERE; kind <= KINDS; kind++) {
            int refused = kind;
            dueRefused("kind " + kind + " on two", SentencesTest::openProgram, x -> x.token(refused, 0), -4);
            dueRefused("kind " + kind + ", no block", SentencesTest::wholeProgram, x -> x.token(refused, 0), -4);
        }
        for (int kind = ADD; kind <= EITHER; kind++) {
            int refused = kind;
            dueRefused("kind " + kind + " on one", SentencesTest::wholeProgram, x -> x.token(refused, 0), -4);
        }
        dueRefused("NOT on none", SentencesTest::someRows, x -> x.token(NOT, 0), -4);
        dueRefused("CONST on six", SentencesTest::fullStack, x -> x.token(CONST, 9), -5);
        dueRefused("CELL on six", SentencesTest::fullStack, x -> x.token(CELL, 5), -5);
        dueRefused("COUNT on six", SentencesTest::blockOnFullStack, x -> x.token(COUNT, 0), -5);
        dueRefused("ANY on six", SentencesTest::blockOnFullStack, x -> x.token(ANY, 0), -5);
        dueRefused("ROWS in three", SentencesTest::blockOnFullStack, x -> x.token(ROWS, 1), -5);
        dueRefused("drop", SentencesTest::someRows, x -> x.drop(), -1);
    }

    private static void blockOnFullStack(RowQueries x) {
        fullStack(x);
        put(x, ROWS, 0);
    }

    private static void refusedCalls() {
        refusedRows();
        refusedTokens();
    }

    private static void orderOfTests() {
        RowQueries x = new RowQueries();
        due("remove: table, then row", x.remove(3, 7), -1);
        due("store: table, then row, then program", x.store(-1, 7, 0), -1);
        due("store: column, then row, then program", x.store(0, 7, 3), -1);
        due("store: row, then program", x.store(0, 0, 0), -2);
        x.add(0, 1, 2, 3);
        due("store: column, then program", x.store(0, 0, -1), -1);
        due("store: row -1, then program", x.store(0, -1, 0), -2);
        due("store: row behind the last, then program", x.store(0, 1, 0), -2);
        due("reached: program, then token", x.reached(-1), -1);
        due("reached: program, then token behind the last", x.reached(48), -1);
        due("token: a of CELL, then its block", x.token(CELL, 9), -1);
        RowQueries full = fullProgram();
        due("token: kind, then 48", full.token(18, 0), -1);
        due("token: a of CONST, then 48", full.token(CONST, -100), -1);
        due("token: a of CELL, then 48", full.token(CELL, -1), -1);
        due("token: a of ROWS, then 48", full.token(ROWS, 3), -1);
        due("token: 48, then the block of a CELL", full.token(CELL, 0), -2);
        due("token: 48, then needs", full.token(ADD, 0), -2);
        due("token: 48, then an open block", full.token(COUNT, 0), -2);
        RowQueries six = new RowQueries();
        fullStack(six);
        due("token: a of CONST, then room", six.token(CONST, 100), -1);
        due("token: a of CELL, then room", six.token(CELL, 9), -1);
        due("token: the block of a CELL, then room", six.token(CELL, 6), -3);
        due("token: needs of COUNT, then room", six.token(COUNT, 0), -4);
        due("token: needs of ANY, then room", six.token(ANY, 0), -4);
        put(six, ROWS, 0);
        due("token: a of ROWS, then three blocks", six.token(ROWS, -1), -1);
        RowQueries noBlock = program(CONST, 1, CONST, 1, CONST, 1, CONST, 1, CONST, 1, CONST, 1);
        due("token: an open block for COUNT, then room", noBlock.token(COUNT, 0), -4);
        due("token: an open block for ANY, then room", noBlock.token(ANY, 0), -4);
    }

    private static void orderAtFortyEight() {
        RowQueries x = program(CONST, 1, CONST, 1, CONST, 1, CONST, 1, CONST, 1, CONST, 1);
        for (int n = 7; n <= 48; n++) {
            x.token(NOT, 0);
        }
        due("token: 48, then room", x.token(CONST, 1), -2);
        RowQueries y = program(ROWS, 0, ROWS, 0, ROWS, 0, CONST, 1);
        for (int n = 5; n <= 48; n++) {
            y.token(NOT, 0);
        }
        due("token: 48, then three blocks", y.token(ROWS, 0), -2);
    }

    private static void ask(RowQueries x) {
        int[] numbers = {MIN, -1, 0, 1, 5, 6, 7, MAX};
        for (int n : numbers) {
            x.rows(n);
            x.cell(1, n, 1);
            x.cell(n, 1, 1);
            x.whole();
            x.result();
            x.reached(n);
            x.without(1, n);
            x.without(n, 0);
        }
    }

    private static void questions() {
        List<Consumer<RowQueries>> states = List.of(SentencesTest::someRows, SentencesTest::openProgram,
                SentencesTest::wholeProgram, SentencesTest::fullStack, SentencesTest::longProgram);
        for (int i = 0; i < states.size(); i++) {
            RowQueries x = new RowQueries();
            RowQueries y = new RowQueries();
            states.get(i).accept(x);
            states.get(i).accept(y);
            ask(y);
            dueSame("state " + i + ": a question", x, y);
        }
        RowQueries x = firstCells(0, 1, 2, 4);
        put(x, ROWS, 0, CELL, 0, SUM, 0);
        due("without", x.without(0, 0), 6);
        due("reached after without", x.reached(1), 3);
        due("without again", x.without(0, 0), 6);
        due("result after without", x.result(), 7);
        due("without after reached", x.without(0, 2), 3);
        due("store after without", x.store(0, 0, 1), 1);
        due("what it stored", x.cell(0, 0, 1), 7);
    }

    // ---- Promises 1 to 4

    private static void newObject() {
        RowQueries x = new RowQueries();
        for (int table = 0; table < 3; table++) {
            due("rows(" + table + ")", x.rows(table), 0);
            due("cell(" + table + ", 0, 0)", x.cell(table, 0, 0), 0);
            due("remove(" + table + ", 0)", x.remove(table, 0), -2);
        }
        due("whole()", x.whole(), 0);
        due("result()", x.result(), 0);
        due("reached(0)", x.reached(0), -1);
        due("drop()", x.drop(), -1);
        due("clear()", x.clear(), 0);
    }

    private static void addAtTheEnd() {
        RowQueries x = new RowQueries();
        for (int row = 0; row < 6; row++) {
            x.add(2, row, 10 + row, 20 + row);
            for (int before = 0; before <= row; before++) {
                due("a of row " + before, x.cell(2, before, 0), before);
                due("b of row " + before, x.cell(2, before, 1), 10 + before);
                due("c of row " + before, x.cell(2, before, 2), 20 + before);
            }
        }
        x.remove(2, 0);
        x.add(2, 7, 17, 27);
        due("a of the row after a removal", x.cell(2, 5, 0), 7);
        due("c of the row after a removal", x.cell(2, 5, 2), 27);
    }

    private static void addToNoTable() {
        for (int table : NOT_0_TO_2) {
            due("add to table " + table, new RowQueries().add(table, 1, 2, 3), -1);
        }
    }

    private static void addToFull() {
        for (int table = 0; table < 3; table++) {
            RowQueries x = firstCells(table, 1, 2, 3, 4, 5);
            due("the sixth", x.add(table, 6, 6, 6), 6);
            due("the seventh", x.add(table, 7, 7, 7), -2);
            x.remove(table, 5);
            due("the sixth again", x.add(table, 8, 8, 8), 6);
        }
    }

    private static void addAnswers() {
        RowQueries x = new RowQueries();
        for (int n = 1; n <= 6; n++) {
            for (int table = 0; table < 3; table++) {
                due("row " + n + " of table " + table, x.add(table, 0, 0, 0), n);
            }
        }
    }

    private static void removeRow() {
        for (int gone = 0; gone < 6; gone++) {
            RowQueries x = new RowQueries();
            for (int row = 0; row < 6; row++) {
                x.add(0, row, row, row);
                x.add(1, row, 10 + row, 20 + row);
                x.add(2, row, row, row);
            }
            x.remove(1, gone);
            for (int row = 0; row < 5; row++) {
                int was = row < gone ? row : row + 1;
                due("a of row " + row + " without " + gone, x.cell(1, row, 0), was);
                due("b of row " + row + " without " + gone, x.cell(1, row, 1), 10 + was);
                due("c of row " + row + " without " + gone, x.cell(1, row, 2), 20 + was);
            }
            due("the table before", x.cell(0, 5, 2), 5);
            due("the table behind", x.cell(2, 0, 0), 0);
            due("rows of the table before", x.rows(0), 6);
            due("rows of the table behind", x.rows(2), 6);
        }
    }

    private static void removeFromNoTable() {
        for (int table : NOT_0_TO_2) {
            due("remove from table " + table, firstCells(0, 1, 2).remove(table, 0), -1);
        }
    }

    private static void removeNoRow() {
        for (int rows = 0; rows <= 6; rows++) {
            RowQueries x = firstCells(1, new int[rows]);
            for (int row : new int[] {-1, rows, rows + 1, MIN, MAX}) {
                due("row " + row + " of " + rows, x.remove(1, row), -2);
            }
        }
    }

    private static void removeAnswers() {
        RowQueries x = firstCells(2, 1, 2, 3, 4, 5, 6);
        for (int left = 5; left >= 0; left--) {
            due("with " + left + " left", x.remove(2, left), left);
            due("rows", x.rows(2), left);
        }
        due("of an empty table", x.remove(2, 0), -2);
    }

    private static void storeResult() {
        for (int i = 0; i < 9; i++) {
            RowQueries x = new RowQueries();
            for (int row = 0; row < 3; row++) {
                x.add(1, 3 * row, 3 * row + 1, 3 * row + 2);
            }
            put(x, CONST, -99);
            x.store(1, i / 3, i % 3);
            for (int j = 0; j < 9; j++) {
                due("cell " + j + " after cell " + i + " was given", x.cell(1, j / 3, j % 3), j == i ? -99 : j);
            }
        }
        RowQueries x = firstCells(0, 5, 6);
        put(x, ROWS, 0, CELL, 0, SUM, 0);
        x.store(0, 0, 0);
        due("the result of before", x.cell(0, 0, 0), 11);
        due("the result of afterwards", x.result(), 17);
    }

    private static void storeInNoTable() {
        RowQueries x = firstCells(0, 1);
        put(x, CONST, 4);
        for (int off : NOT_0_TO_2) {
            due("table " + off, x.store(off, 0, 0), -1);
            due("column " + off, x.store(0, 0, off), -1);
            due("table and column " + off, x.store(off, 0, off), -1);
        }
    }

    private static void storeInNoRow() {
        for (int rows = 0; rows <= 6; rows++) {
            RowQueries x = firstCells(2, new int[rows]);
            put(x, CONST, 4);
            for (int row : new int[] {-1, rows, rows + 1, MIN, MAX}) {
                due("row " + row + " of " + rows, x.store(2, row, 2), -2);
            }
        }
    }

    private static void storeNotWhole() {
        RowQueries x = firstCells(0, 8);
        due("no token", x.store(0, 0, 0), -3);
        put(x, CONST, 1, CONST, 2);
        due("two numbers", x.store(0, 0, 0), -3);
        put(x, ADD, 0, ROWS, 0);
        due("an open block", x.store(0, 0, 0), -3);
        x.clear();
        put(x, ROWS, 0, CONST, 1);
        due("one number in an open block", x.store(0, 0, 0), -3);
        due("the cell", x.cell(0, 0, 0), 8);
    }

    private static void storeAnswers() {
        RowQueries x = firstCells(2, 1, 1, 1, 1, 1, 1);
        put(x, CONST, 0);
        due("the first cell", x.store(2, 0, 0), 1);
        due("the last cell", x.store(2, 5, 2), 1);
        due("once more", x.store(2, 5, 2), 1);
    }

    // ---- Promise 5

    private static void tokenAtTheEnd() {
        RowQueries x = program(CONST, 9);
        x.token(CONST, 5);
        x.token(SUB, 0);
        due("9 - 5", x.result(), 4);
        x.token(NOT, 0);
        due("not 4", x.result(), 0);
        x.token(NOT, 0);
        due("not 0", x.result(), 1);
    }

    private static void noKind() {
        for (int kind : new int[] {-1, 18, 19, MIN, MAX}) {
            due("kind " + kind, new RowQueries().token(kind, 0), -1);
            due("kind " + kind + " in a block", program(ROWS, 0, CONST, 1).token(kind, 1), -1);
        }
        due("kind 0", new RowQueries().token(0, 0), 1);
        due("kind 17", program(ROWS, 0, CONST, 1).token(17, 0), 3);
    }

    private static void operands() {
        for (int a : new int[] {-100, 100, MIN, MAX}) {
            due("CONST " + a, new RowQueries().token(CONST, a), -1);
        }
        due("CONST -99", new RowQueries().token(CONST, -99), 1);
        due("CONST 99", new RowQueries().token(CONST, 99), 1);
        for (int a : new int[] {-1, 9, MIN, MAX}) {
            due("CELL " + a, program(ROWS, 0, ROWS, 0, ROWS, 0).token(CELL, a), -1);
        }
        due("CELL 0", program(ROWS, 0, ROWS, 0, ROWS, 0).token(CELL, 0), 4);
        due("CELL 8", program(ROWS, 0, ROWS, 0, ROWS, 0).token(CELL, 8), 4);
        for (int a : NOT_0_TO_2) {
            due("ROWS " + a, new RowQueries().token(ROWS, a), -1);
        }
        due("ROWS 0", new RowQueries().token(ROWS, 0), 1);
        due("ROWS 2", new RowQueries().token(ROWS, 2), 1);
        for (int a : new int[] {MIN, -100, -1, 3, 9, 100, MAX}) {
            for (int kind = ADD; kind <= EITHER; kind++) {
                due("kind " + kind + " with " + a, program(CONST, 1, CONST, 1).token(kind, a), 3);
            }
            due("NOT with " + a, program(CONST, 1).token(NOT, a), 2);
            due("COUNT with " + a, program(ROWS, 0).token(COUNT, a), 2);
            due("ANY with " + a, program(ROWS, 0).token(ANY, a), 2);
            due("WHERE with " + a, program(ROWS, 0, CONST, 1).token(WHERE, a), 3);
            for (int kind = SUM; kind <= KINDS; kind++) {
                due("kind " + kind + " with " + a, program(ROWS, 0, CONST, 1).token(kind, a), 3);
            }
        }
    }

    private static void noToken49() {
        RowQueries x = fullProgram();
        due("CONST", x.token(CONST, 1), -2);
        due("NOT", x.token(NOT, 0), -2);
        due("ROWS", x.token(ROWS, 0), -2);
        due("drop", x.drop(), 47);
        due("the 48th again", x.token(ROWS, 0), 48);
        due("the 49th again", x.token(COUNT, 0), -2);
    }

    private static void blockNotOpen() {
        RowQueries x = new RowQueries();
        for (int open = 0; open <= 3; open++) {
            for (int a = 0; a <= 8; a++) {
                boolean isOpen = a < 3 * open;
                int answer = x.token(CELL, a);
                due("CELL " + a + " with " + open + " open", answer, isOpen ? open + 1 : -3);
                if (answer > 0) {
                    x.drop();
                }
            }
            if (open < 3) {
                put(x, ROWS, 0);
            }
        }
        put(x, COUNT, 0);
        due("CELL 6 after its block has ended", x.token(CELL, 6), -3);
        put(x, SUM, 0);
        due("CELL 3 after its block has ended", x.token(CELL, 3), -3);
        put(x, SUM, 0);
        due("CELL 0 after its block has ended", x.token(CELL, 0), -3);
    }

    private static void needs() {
        for (int kind = ADD; kind <= EITHER; kind++) {
            due("kind " + kind + " on none", new RowQueries().token(kind, 0), -4);
            due("kind " + kind + " on one", program(CONST, 1).token(kind, 0), -4);
            due("kind " + kind + " on two", program(CONST, 1, CONST, 1).token(kind, 0), 3);
            due("kind " + kind + " on three", program(CONST, 1, CONST, 1, CONST, 1).token(kind, 0), 4);
            due("kind " + kind + " in a block on one", program(CONST, 1, ROWS, 0, CONST, 1).token(kind, 0), -4);
            due("kind " + kind + " in a block on two", program(ROWS, 0, CONST, 1, CONST, 1).token(kind, 0), 4);
        }
        due("NOT on none", new RowQueries().token(NOT, 0), -4);
        due("NOT on one", program(CONST, 1).token(NOT, 0), 2);
        due("NOT in a block on none", program(CONST, 1, ROWS, 0).token(NOT, 0), -4);
        due("NOT in a block on one", program(ROWS, 0, CONST, 1).token(NOT, 0), 3);
        for (int kind : new int[] {WHERE, SUM, MOST, LEAST, KINDS}) {
            due("kind " + kind + " in a block on none", program(CONST, 1, ROWS, 0).token(kind, 0), -4);
            due("kind " + kind + " in a block on two", program(ROWS, 0, CONST, 1, CONST, 1).token(kind, 0), -4);
        }
        for (int kind : new int[] {COUNT, ANY}) {
            due("kind " + kind + " in a block on one", program(ROWS, 0, CONST, 1).token(kind, 0), -4);
        }
        due("WHERE took the number", program(ROWS, 0, CONST, 1, WHERE, 0).token(WHERE, 0), -4);
        due("an inner block's end is the outer one's number", program(ROWS, 0, ROWS, 0, COUNT, 0).token(SUM, 0), 4);
        due("and not none", program(ROWS, 0, ROWS, 0, COUNT, 0).token(COUNT, 0), -4);
    }

    private static void noBlockToEnd() {
        for (int kind = WHERE; kind <= KINDS; kind++) {
            due("kind " + kind + " on none", new RowQueries().token(kind, 0), -4);
            due("kind " + kind + " on one", program(CONST, 1).token(kind, 0), -4);
            due("kind " + kind + " on two", program(CONST, 1, CONST, 1).token(kind, 0), -4);
            due("kind " + kind + " after a block", program(ROWS, 0, COUNT, 0).token(kind, 0), -4);
        }
    }

    private static void noRoom() {
        RowQueries x = program(CONST, 1, CONST, 1, CONST, 1, CONST, 1, CONST, 1);
        due("CONST on five", x.token(CONST, 1), 6);
        due("CONST on six", x.token(CONST, 1), -5);
        due("NOT on six", x.token(NOT, 0), 7);
        due("ROWS on six", x.token(ROWS, 0), 8);
        due("COUNT on six", x.token(COUNT, 0), -5);
        due("ANY on six", x.token(ANY, 0), -5);
        due("CELL on six", x.token(CELL, 0), -5);
        RowQueries blocks = new RowQueries();
        fullStack(blocks);
        due("CONST on 2 + 2 + 2", blocks.token(CONST, 1), -5);
        due("CELL on 2 + 2 + 2", blocks.token(CELL, 0), -5);
        due("EITHER on 2 + 2 + 2", blocks.token(EITHER, 0), 9);
        due("ROWS on 2 + 2 + 1", blocks.token(ROWS, 0), 10);
        due("COUNT on 2 + 2 + 1", blocks.token(COUNT, 0), 11);
        due("ADD on 2 + 2 + 2", blocks.token(ADD, 0), 12);
        due("CONST on 2 + 2 + 1", blocks.token(CONST, 1), 13);
        due("MUL on 2 + 2 + 2", blocks.token(MUL, 0), 14);
        due("SUM on 2 + 2 + 1", blocks.token(SUM, 0), 15);
        due("CONST on 2 + 3", blocks.token(CONST, 1), 16);
        due("CONST on 2 + 4", blocks.token(CONST, 1), -5);
        RowQueries ends = program(CONST, 1, CONST, 1, CONST, 1, CONST, 1, CONST, 1, ROWS, 0, CONST, 1);
        due("WHERE on 5 + 1", ends.token(WHERE, 0), 8);
        for (int kind = SUM; kind <= KINDS; kind++) {
            put(ends, CONST, 1);
            due("kind " + kind + " on 5 + 1", ends.token(kind, 0), 10);
            due("CONST after it", ends.token(CONST, 1), -5);
            ends.drop();
            ends.drop();
        }
    }

    private static void noFourthBlock() {
        for (int table = 0; table < 3; table++) {
            due("ROWS with two open", program(ROWS, 0, ROWS, 1).token(ROWS, table), 3);
            due("ROWS with three open", program(ROWS, 0, ROWS, 1, ROWS, 2).token(ROWS, table), -5);
            RowQueries six = program(ROWS, 0, ROWS, 0, CONST, 1, CONST, 1, CONST, 1, CONST, 1, CONST, 1, CONST, 1);
            due("ROWS with two open on six", six.token(ROWS, table), 9);
            due("ROWS with three open on six", six.token(ROWS, table), -5);
        }
        due("ROWS after the third has ended", program(ROWS, 0, ROWS, 1, ROWS, 2, COUNT, 0).token(ROWS, 0), 5);
    }

    private static void tokenAnswers() {
        RowQueries x = new RowQueries();
        due("the first", x.token(ROWS, 0), 1);
        for (int n = 2; n <= 47; n++) {
            due("the next", x.token(n == 2 ? CELL : NOT, 0), n);
        }
        due("the last", x.token(SUM, 0), 48);
        due("as many as clear tells", x.clear(), 48);
    }

    // ---- Promises 6 to 10

    private static void dueUndone(String what, Consumer<RowQueries> before, int kind, int a) {
        RowQueries x = new RowQueries();
        RowQueries y = new RowQueries();
        before.accept(x);
        before.accept(y);
        int answer = y.token(kind, a);
        if (answer < 1) {
            tell(what + ": token(" + kind + ", " + a + ") answered " + answer);
        }
        due(what + ": drop after kind " + kind, y.drop(), answer - 1);
        dueSame(what + ": kind " + kind + " and drop", x, y);
    }

    private static void dropLast() {
        for (int kind = ADD; kind <= NOT; kind++) {
            dueUndone("two numbers in two blocks", SentencesTest::openProgram, kind, 0);
        }
        dueUndone("two numbers in two blocks", SentencesTest::openProgram, CONST, 7);
        dueUndone("two numbers in two blocks", SentencesTest::openProgram, CELL, 5);
        dueUndone("two numbers in two blocks", SentencesTest::openProgram, ROWS, 2);
        for (int kind : new int[] {WHERE, SUM, MOST, LEAST, KINDS}) {
            dueUndone("one number in two blocks", x -> {
                openProgram(x);
                put(x, SUB, 0);
            }, kind, 0);
        }
        for (int kind : new int[] {COUNT, ANY}) {
            dueUndone("a WHERE in two blocks", x -> {
                someRows(x);
                put(x, CONST, 3, ROWS, 1, CELL, 1, ROWS, 0, CELL, 2, WHERE, 0);
            }, kind, 0);
        }
        dueUndone("a whole program", SentencesTest::wholeProgram, CONST, 1);
        dueUndone("a whole program", SentencesTest::wholeProgram, NOT, 0);
        dueUndone("a whole program", SentencesTest::wholeProgram, ROWS, 0);
        dueUndone("no token", SentencesTest::someRows, CONST, 1);
        dueUndone("no token", SentencesTest::someRows, ROWS, 1);
        dueUndone("47 tokens", x -> {
            longProgram(x);
            x.drop();
        }, LEAST, 0);
    }

    private static void dropAndPutOthers() {
        RowQueries x = firstCells(0, 2, 3, 5);
        put(x, ROWS, 0, CELL, 0, SUM, 0);
        x.drop();
        put(x, CONST, 1, ADD, 0, SUM, 0);
        due("the block ends later now", x.result(), 13);
        dueReached("the block ends later now", x, 1, 3, 3, 3, 3);
        x.drop();
        x.drop();
        x.drop();
        put(x, MOST, 0);
        due("the block ends sooner again", x.result(), 5);
        dueReached("the block ends sooner again", x, 1, 3, 3);
        x.drop();
        x.drop();
        x.drop();
        put(x, CONST, 4, ROWS, 0, COUNT, 0, SUB, 0);
        due("another block", x.result(), 1);
    }

    private static void dropNone() {
        RowQueries x = new RowQueries();
        due("a new object", x.drop(), -1);
        put(x, CONST, 1);
        x.drop();
        due("after the only one", x.drop(), -1);
        put(x, ROWS, 1, COUNT, 0);
        x.clear();
        due("after clear", x.drop(), -1);
    }

    private static void dropAnswers() {
        RowQueries x = fullProgram();
        for (int left = 47; left >= 0; left--) {
            due("with " + left + " left", x.drop(), left);
        }
    }

    private static void clearAll() {
        List<Consumer<RowQueries>> states = List.of(SentencesTest::someRows, SentencesTest::openProgram,
                SentencesTest::wholeProgram, SentencesTest::fullStack, SentencesTest::longProgram);
        for (int i = 0; i < states.size(); i++) {
            RowQueries x = new RowQueries();
            RowQueries y = new RowQueries();
            someRows(x);
            states.get(i).accept(y);
            y.clear();
            due("state " + i + ": drop", y.drop(), -1);
            due("state " + i + ": whole", y.whole(), 0);
            due("state " + i + ": CELL", y.token(CELL, 0), -3);
            due("state " + i + ": NOT", y.token(NOT, 0), -4);
            put(x, CONST, 1, ROWS, 1, CELL, 0);
            put(y, CONST, 1, ROWS, 1, CELL, 0);
            dueSame("state " + i + " and clear", x, y);
        }
    }

    private static void clearAnswers() {
        RowQueries x = new RowQueries();
        due("no token", x.clear(), 0);
        put(x, ROWS, 0);
        due("one token", x.clear(), 1);
        due("none again", x.clear(), 0);
        due("the most", fullProgram().clear(), 48);
    }

    private static void rowsOfTable() {
        for (int table = 0; table < 3; table++) {
            for (int rows = 0; rows <= 6; rows++) {
                RowQueries x = firstCells(table, new int[rows]);
                for (int other = 0; other < 3; other++) {
                    due("rows(" + other + ")", x.rows(other), other == table ? rows : 0);
                }
            }
        }
    }

    private static void rowsOfNoTable() {
        for (int table : NOT_0_TO_2) {
            due("rows(" + table + "), empty tables", new RowQueries().rows(table), -1);
            due("rows(" + table + "), a full table", firstCells(2, 1, 2, 3, 4, 5, 6).rows(table), -1);
        }
    }

    private static RowQueries fullTables() {
        RowQueries x = new RowQueries();
        for (int i = 0; i < 18; i++) {
            x.add(i / 6, 1 + 3 * i, 2 + 3 * i, 3 + 3 * i);
        }
        return x;
    }

    private static void cells() {
        RowQueries x = fullTables();
        for (int i = 0; i < 54; i++) {
            due("cell " + i, x.cell(i / 18, i / 3 % 6, i % 3), i + 1);
        }
    }

    private static void noSuchCell() {
        RowQueries x = fullTables();
        for (int off : NOT_0_TO_2) {
            due("table " + off, x.cell(off, 0, 0), 0);
            due("column " + off, x.cell(1, 1, off), 0);
        }
        for (int off : new int[] {-1, 6, MIN, MAX}) {
            due("row " + off, x.cell(1, off, 1), 0);
        }
        due("table, row and column", x.cell(-1, -1, -1), 0);
        x.remove(2, 5);
        due("a row that is gone", x.cell(2, 5, 0), 0);
        due("an empty table's", new RowQueries().cell(0, 0, 0), 0);
    }

    // ---- Promises 11 to 13

    private static void results() {
        RowQueries x = firstCells(0, MIN);
        dueResult("the least int", x, MIN, ROWS, 0, CELL, 0, SUM, 0);
        x.add(0, -1, 0, 0);
        due("it goes with the rows", x.result(), MAX);
        x.remove(0, 0);
        due("also with those removed", x.result(), -1);
        x.remove(0, 0);
        due("and with none", x.result(), 0);
        dueResult("it is 0 and whole", x, 0, CONST, 0);
    }

    private static void resultNotWhole() {
        due("no token", new RowQueries().result(), 0);
        due("two numbers", program(CONST, 5, CONST, 6).result(), 0);
        due("an open block", program(CONST, 5, ROWS, 0).result(), 0);
        due("one number in an open block", program(ROWS, 0, CONST, 5).result(), 0);
        RowQueries x = firstCells(0, 5);
        dueResult("whole", x, 5, ROWS, 0, CELL, 0, SUM, 0);
        put(x, CONST, 6);
        due("no more", x.result(), 0);
    }

    private static void reachedOutside() {
        dueReached("no block", program(CONST, 1, CONST, 2, ADD, 0, NOT, 0), 1, 1, 1, 1);
        dueReached("no rows", program(ROWS, 0, COUNT, 0, ROWS, 1, COUNT, 0, ADD, 0), 1, 0, 1, 0, 1);
        RowQueries x = firstCells(0, 1, 2, 3, 4, 5, 6);
        put(x, CONST, 1, ROWS, 0, COUNT, 0, ADD, 0, ROWS, 0, ANY, 0, SUB, 0);
        dueReached("six rows", x, 1, 1, 6, 1, 1, 6, 1);
        RowQueries full = fullProgram();
        due("the first of 48", full.reached(0), 1);
        due("the last of 48", full.reached(47), 1);
    }

    private static void reachedInBlocks() {
        RowQueries x = firstCells(0, 0, 1, 2, 3);
        x.add(1, 1, 0, 0);
        x.add(1, 3, 0, 0);
        put(x, ROWS, 0, CELL, 0, WHERE, 0, ROWS, 1, CELL, 0, CELL, 3, LESS, 0, WHERE, 0, CONST, 1, SUM, 0, WHERE, 0,
                COUNT, 0, NOT, 0);
        dueReached("a WHERE in both", x, 1, 4, 4, 3, 6, 6, 6, 6, 2, 2, 3, 2, 1);
        x.clear();
        put(x, ROWS, 0, CONST, 0, WHERE, 0, ROWS, 1, COUNT, 0, SUM, 0);
        dueReached("all left out", x, 1, 4, 4, 0, 0, 0);
        x.clear();
        put(x, ROWS, 2, ROWS, 0, COUNT, 0, SUM, 0);
        dueReached("no rows around", x, 1, 0, 0, 0);
        x.clear();
        put(x, ROWS, 0, ROWS, 2, ROWS, 0, COUNT, 0, SUM, 0, SUM, 0);
        dueReached("no rows within", x, 1, 4, 0, 0, 0, 4);
        RowQueries full = fullTables();
        put(full, ROWS, 0, ROWS, 1, ROWS, 2, CELL, 0, CELL, 3, ADD, 0, CELL, 6, ADD, 0);
        for (int n = 9; n <= 45; n++) {
            put(full, NOT, 0);
        }
        put(full, SUM, 0, SUM, 0, SUM, 0);
        due("full tables and 48 tokens: the first", full.reached(0), 1);
        due("full tables and 48 tokens: ROWS", full.reached(2), 36);
        due("full tables and 48 tokens: NOT", full.reached(44), 216);
        due("full tables and 48 tokens: SUM", full.reached(45), 216);
        due("full tables and 48 tokens: the last", full.reached(47), 6);
    }

    private static void reachedNotWhole() {
        due("no token", new RowQueries().reached(0), -1);
        due("two numbers", program(CONST, 5, CONST, 6).reached(0), -1);
        due("an open block", program(CONST, 5, ROWS, 0).reached(0), -1);
        due("one number in an open block", program(ROWS, 0, CONST, 5).reached(1), -1);
    }

    private static void reachedNoToken() {
        RowQueries x = program(CONST, 5);
        due("token 0 of one", x.reached(0), 1);
        for (int i : new int[] {-1, 1, 2, 48, MIN, MAX}) {
            due("token " + i + " of one", x.reached(i), -2);
        }
        RowQueries full = fullProgram();
        for (int i : new int[] {-1, 48, 49, MIN, MAX}) {
            due("token " + i + " of 48", full.reached(i), -2);
        }
        full.drop();
        due("token 47 of 47", full.reached(47), -2);
    }

    private static void withoutRow() {
        RowQueries x = firstCells(1, 1, 2, 4, 8, 16, 32);
        x.add(0, 0, 0, 0);
        put(x, ROWS, 1, CELL, 0, SUM, 0);
        for (int row = 0; row < 6; row++) {
            due("row " + row, x.without(1, row), 63 - (1 << row));
        }
        due("another table's row", x.without(0, 0), 63);
        RowQueries pairs = firstCells(0, 1, 10, 50);
        put(pairs, ROWS, 0, ROWS, 0, ROWS, 0, CONST, 1, SUM, 0, SUM, 0, SUM, 0);
        due("in all three blocks", pairs.without(0, 1), 8);
        for (int kind = SUM; kind <= LEAST; kind++) {
            RowQueries one = firstCells(2, 7);
            put(one, ROWS, 2, CELL, 0, kind, 0);
            due("the only row, kind " + kind, one.without(2, 0), 0);
            due("which is still there", one.result(), 7);
        }
        RowQueries extremes = firstCells(0, MAX, MIN, 3);
        put(extremes, ROWS, 0, CELL, 0, MOST, 0);
        due("the greatest", extremes.without(0, 0), 3);
        due("the least", extremes.without(0, 1), MAX);
        RowQueries twice = firstCells(0, 4, 4, 5);
        put(twice, ROWS, 0, CELL, 0, KINDS, 0);
        due("one of two alike", twice.without(0, 0), 2);
        due("the one of its kind", twice.without(0, 2), 1);
    }

    private static void withoutNone() {
        RowQueries x = firstCells(0, 1, 2);
        due("no token", x.without(0, 0), 0);
        put(x, CONST, 5);
        due("a whole program", x.without(0, 0), 5);
        for (int table : NOT_0_TO_2) {
            due("table " + table, x.without(table, 0), 0);
            due("table " + table + ", row -1", x.without(table, -1), 0);
        }
        for (int row : new int[] {-1, 2, 3, 6, MIN, MAX}) {
            due("row " + row + " of two", x.without(0, row), 0);
        }
        due("row 0 of none", x.without(2, 0), 0);
        put(x, CONST, 6);
        due("two numbers", x.without(0, 0), 0);
        put(x, ADD, 0, ROWS, 0);
        due("an open block", x.without(0, 0), 0);
        due("row 6 of six", withFullTable().without(1, 6), 0);
        due("row 5 of six", withFullTable().without(1, 5), 9);
    }

    private static RowQueries withFullTable() {
        RowQueries x = firstCells(1, 1, 2, 3, 4, 5, 6);
        put(x, CONST, 9);
        return x;
    }

    // ---- the document

    private static void terms() {
        String terms = "Terms";
        test(terms, "There are three TABLES, 0 to 2, ", SentencesTest::threeTables);
        test(terms, "each a list of at most 6 ROWS;", SentencesTest::atMostSixRows);
        test(terms, "a row has three CELLS, in the COLUMNS 0 to 2, each an int.", SentencesTest::threeCells);
        test(terms, "Sums, differences and products wrap as those of ints do.", SentencesTest::wraps);
        test(terms, "A PROGRAM is a list of at most 48 TOKENS.", SentencesTest::atMost48Tokens);
        test(terms, "It puts NUMBERS on a stack of at most 6; tokens take what stands on top of it.",
                SentencesTest::atMostSixNumbers);
        test(terms, "Kinds, with n and m for what is taken, m being the top:", SentencesTest::topIsTheSecond);
        test(terms, "0 CONST a     the number a (-99 to 99)", SentencesTest::constNumbers);
        test(terms, "1 CELL a      the cell in column a % 3 of the row at hand in block a / 3 (rounded down), "
                + "which has to be open (a from 0 to 8)", SentencesTest::cellsOfBlocks);
        test(terms, "2 ADD n m   3 SUB n m   4 MUL n m      n + m, n - m, n * m", SentencesTest::sumsAndProducts);
        test(terms, "5 LESS n m    1 if n is less than m, else 0", SentencesTest::less);
        test(terms, "6 EQUAL n m   1 if they are the same, else 0", SentencesTest::equal);
        test(terms, "7 BOTH n m    1 if neither is 0, else 0", SentencesTest::both);
        test(terms, "8 EITHER n m  1 if they are not both 0, else 0", SentencesTest::either);
        test(terms, "9 NOT n       1 if n is 0, else 0", SentencesTest::not);
        test(terms, "10 ROWS a     begins a block over table a (0 to 2)", SentencesTest::rowsOfTables);
        test(terms, "11 WHERE n    leaves, in the innermost open block, the row at hand out if n is 0", SentencesTest::where);
        test(terms, "12 COUNT      ends the innermost open block: how many of its rows are not left out", SentencesTest::count);
        test(terms, "13 ANY        ends it: 1 if some row is not left out, else 0", SentencesTest::any);
        test(terms, "14 SUM n      ends it: the sum of the n of the rows that are not left out (0 without any)",
                SentencesTest::sum);
        test(terms, "15 MOST n     ends it: the greatest of them (0 without any)", SentencesTest::most);
        test(terms, "16 LEAST n    ends it: the least of them (0 without any)", SentencesTest::least);
        test(terms, "17 KINDS n    ends it: how many different ones of them there are", SentencesTest::kinds);
        test(terms, "BLOCKS may stand within blocks; at most three are open at a place,", SentencesTest::atMostThreeBlocks);
        test(terms, "numbered 0 (the outermost one), 1 and 2.", SentencesTest::numbersOfBlocks);
        test(terms, "The tokens of a block are worked out for each row of its table, in order;",
                SentencesTest::blocksGoThroughTheirRows);
        test(terms, "once a row is left out, the rest of the block's tokens, but for the ending one's result, "
                + "is not worked out for it.", SentencesTest::leftOutRows);
        test(terms, "What stood on the stack before a block began can't be taken by tokens in it;",
                SentencesTest::numbersBeforeBlock);
        test(terms, "at a WHERE, SUM, MOST, LEAST or KINDS there has to be just one number on the stack since "
                + "the block began, at COUNT and ANY none.", SentencesTest::numbersAtAnEnd);
        test(terms, "A program is WHOLE if no block is open and just one number is on its stack: its RESULT.",
                SentencesTest::wholePrograms);
        test(terms, "A refused call changes nothing.", SentencesTest::refusedCalls);
        test(terms, "The tests of a call are made in the order in which they are named.", () -> {
            orderOfTests();
            orderAtFortyEight();
        });
        test(terms, "Ahead of the calls `rows`, `cell`, `whole`, `result`, `reached`, `without` the interface says: "
                + "questions; they change nothing.", SentencesTest::questions);
    }

    private static void promises1To4() {
        test("Promise 1", "Empty tables, no tokens.", SentencesTest::newObject);
        test("Promise 2", "Puts a row with these cells at the end of a table.", SentencesTest::addAtTheEnd);
        test("Promise 2", "table is not 0 to 2: -1;", SentencesTest::addToNoTable);
        test("Promise 2", "it has 6 rows: -2.", SentencesTest::addToFull);
        test("Promise 2", "Else answers how many rows it has.", SentencesTest::addAnswers);
        test("Promise 3", "Takes a row (counted from 0) out of a table.", SentencesTest::removeRow);
        test("Promise 3", "table is not 0 to 2: -1;", SentencesTest::removeFromNoTable);
        test("Promise 3", "there is no such row: -2.", SentencesTest::removeNoRow);
        test("Promise 3", "Else answers how many rows it has.", SentencesTest::removeAnswers);
        test("Promise 4", "Gives a cell the program's result.", SentencesTest::storeResult);
        test("Promise 4", "table is not 0 to 2, or column not 0 to 2: -1;", SentencesTest::storeInNoTable);
        test("Promise 4", "there is no such row: -2;", SentencesTest::storeInNoRow);
        test("Promise 4", "the program is not whole: -3.", SentencesTest::storeNotWhole);
        test("Promise 4", "Else answers 1.", SentencesTest::storeAnswers);
    }

    private static void promise5() {
        String token = "Promise 5";
        test(token, "Puts a token at the end of the program.", SentencesTest::tokenAtTheEnd);
        test(token, "kind is not 0 to 17;", SentencesTest::noKind);
        test(token, "or a is not -99 to 99 for CONST, 0 to 8 for CELL, 0 to 2 for ROWS (for others it is not looked at): -1;",
                SentencesTest::operands);
        test(token, "there are 48 tokens: -2;", SentencesTest::noToken49);
        test(token, "the block of a CELL is not open: -3;", SentencesTest::blockNotOpen);
        test(token, "the stack has not what the token needs (since the innermost open block began),", SentencesTest::needs);
        test(token, "or no block is open for WHERE to KINDS: -4;", SentencesTest::noBlockToEnd);
        test(token, "the token puts a number for which there is no room (6 are on the stack, all open blocks together, "
                + "and it takes none),", SentencesTest::noRoom);
        test(token, "or it is ROWS and three blocks are open: -5.", SentencesTest::noFourthBlock);
        test(token, "Else answers how many tokens there are.", SentencesTest::tokenAnswers);
    }

    private static void promises6To13() {
        test("Promise 6", "Takes the last token away; all is as before it was put.", () -> {
            dropLast();
            dropAndPutOthers();
        });
        test("Promise 6", "There is none: -1.", SentencesTest::dropNone);
        test("Promise 6", "Else answers how many are left.", SentencesTest::dropAnswers);
        test("Promise 7", "Takes all tokens away;", SentencesTest::clearAll);
        test("Promise 7", "answers how many there were.", SentencesTest::clearAnswers);
        test("Promise 8", "How many rows a table has;", SentencesTest::rowsOfTable);
        test("Promise 8", "-1.", SentencesTest::rowsOfNoTable);
        test("Promise 9", "A cell;", SentencesTest::cells);
        test("Promise 9", "0 if there is no such one.", SentencesTest::noSuchCell);
        test("Promise 10", "1 if the program is whole, else 0.", SentencesTest::wholePrograms);
        test("Promise 11", "The result;", SentencesTest::results);
        test("Promise 11", "0 if the program is not whole.", SentencesTest::resultNotWhole);
        test("Promise 12", "How often token i (from 0) is worked out: a token outside all blocks once;",
                SentencesTest::reachedOutside);
        test("Promise 12", "a token of a block (its ending one, too; but ROWS is one of the block around) once for each row "
                + "that is not left out by then, each time that its ROWS is worked out.", SentencesTest::reachedInBlocks);
        test("Promise 12", "The program is not whole: -1;", SentencesTest::reachedNotWhole);
        test("Promise 12", "there is no such token: -2.", SentencesTest::reachedNoToken);
        test("Promise 13", "The result that the program would have without row number 'row' of a table;",
                SentencesTest::withoutRow);
        test("Promise 13", "0 if the program is not whole, or there is no such table or row.", SentencesTest::withoutNone);
    }

    /** Every quote has to stand in the document, and nothing of these parts may be left unquoted. */
    private static void compareWithDocument() throws IOException {
        sentence = DOCUMENT.toString();
        for (String part : Files.readString(DOCUMENT).split("(?m)^## ")) {
            String heading = part.substring(0, part.indexOf('\n')).replaceFirst(":.*", "");
            if (!heading.equals("Terms") && !heading.startsWith("Promise ")) {
                continue;
            }
            String left = part.substring(part.indexOf('\n')).replaceFirst("^\\s*`[^`]*\\)`: ", "");
            for (String quote : QUOTES.getOrDefault(heading, List.of())) {
                if (!left.contains(quote)) {
                    tell(heading + " has not the sentence \"" + quote + "\"");
                }
                left = left.replace(quote, "");
            }
            if (!left.isBlank()) {
                tell(heading + " has sentences without a test: " + left.strip());
            }
        }
    }

    public static void main(String[] args) throws IOException {
        test("What it is", "An object is used for at most 512 calls after it has been made", () -> {
            lastCall();
            lastCallOfRefusedOnes();
        });
        terms();
        promises1To4();
        promise5();
        promises6To13();
        compareWithDocument();
        System.out.println(wrong == 0 ? "all " + looks + " answers are as due" : wrong + " answers are not as due");
        if (wrong != 0) {
            System.exit(1);
        }
    }
}
