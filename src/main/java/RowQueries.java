/**
 * Small tables, and programs that go through their rows, also within one another, and count,
 * add up and compare what they find.
 */
public final class RowQueries {
    private static final int TABLES = 3;
    private static final int MAX_ROWS = 6;
    private static final int COLUMNS = 3;
    private static final int MAX_TOKENS = 48;
    private static final int MAX_NUMBERS = 6;
    private static final int MAX_BLOCKS = 3;
    private static final int MAX_CONST = 99;

    // Every step works out one token, and a token within three blocks is worked out at most once
    // for each choice of one row in each of them.
    private static final int MAX_STEPS = MAX_TOKENS * MAX_ROWS * MAX_ROWS * MAX_ROWS;

    private static final int CONST = 0;
    private static final int CELL = 1;
    private static final int ADD = 2;
    private static final int SUB = 3;
    private static final int MUL = 4;
    private static final int LESS = 5;
    private static final int EQUAL = 6;
    private static final int BOTH = 7;
    private static final int EITHER = 8;
    private static final int NOT = 9;
    private static final int ROWS = 10;
    private static final int WHERE = 11;
    private static final int COUNT = 12;
    private static final int ANY = 13;
    private static final int SUM = 14;
    private static final int MOST = 15;
    private static final int LEAST = 16;
    private static final int KINDS = 17;

    private static final int NONE = -1;

    private final int[] cells = new int[TABLES * MAX_ROWS * COLUMNS];
    private final int[] rowCount = new int[TABLES];

    private final int[] kinds = new int[MAX_TOKENS];
    private final int[] operands = new int[MAX_TOKENS];
    private int tokenCount = 0;

    // What holds ahead of each token, and, at tokenCount, behind the last one. It does not depend
    // on the rows, and as it is kept for every place, dropping a token needs no undoing.
    private final int[] heightAt = new int[MAX_TOKENS + 1];
    private final int[] depthAt = new int[MAX_TOKENS + 1];
    private final int[] openerAt = new int[MAX_TOKENS + 1];

    // The ending token of the block that a ROWS token begins; out of date while the block is
    // open, but only a whole program is worked out.
    private final int[] closerOf = new int[MAX_TOKENS];

    // These serve while a program is worked out; nothing in them outlives the call.
    private final int[] stack = new int[MAX_NUMBERS];
    private final int[] tableOfBlock = new int[MAX_BLOCKS];
    private final int[] rowAtHand = new int[MAX_BLOCKS];
    private final int[] outcome = new int[MAX_BLOCKS];
    private final int[] keptRows = new int[MAX_BLOCKS];
    private final int[] keptNumbers = new int[MAX_BLOCKS * MAX_ROWS];
    private final int[] timesReached = new int[MAX_TOKENS];
    private int absentTable = NONE;
    private int absentRow = NONE;

    public RowQueries() {
        openerAt[0] = NONE;
    }

    public int add(int table, int a, int b, int c) {
        if (!isTable(table)) {
            return -1;
        }
        int row = rowCount[table];
        if (row >= MAX_ROWS) {
            return -2;
        }
        int first = cellIndex(table, row, 0);
        cells[first] = a;
        cells[first + 1] = b;
        cells[first + 2] = c;
        rowCount[table] = row + 1;
        return row + 1;
    }

    public int remove(int table, int row) {
        if (!isTable(table)) {
            return -1;
        }
        if (!isRow(table, row)) {
            return -2;
        }
        int end = cellIndex(table, rowCount[table] - 1, 0);
        for (int i = cellIndex(table, row, 0); i < end; i++) {
            cells[i] = cells[i + COLUMNS];
        }
        rowCount[table]--;
        return rowCount[table];
    }

    public int store(int table, int row, int column) {
        if (!isTable(table) || !isColumn(column)) {
            return -1;
        }
        if (!isRow(table, row)) {
            return -2;
        }
        if (!isWhole()) {
            return -3;
        }
        int value = evaluate(NONE, NONE);
        cells[cellIndex(table, row, column)] = value;
        return 1;
    }

    public int token(int kind, int a) {
        if (!isToken(kind, a)) {
            return -1;
        }
        if (tokenCount >= MAX_TOKENS) {
            return -2;
        }
        if (kind == CELL && a / COLUMNS >= depthAt[tokenCount]) {
            return -3;
        }
        if (!hasItsNeeds(kind)) {
            return -4;
        }
        if (!hasRoom(kind)) {
            return -5;
        }
        append(kind, a);
        return tokenCount;
    }

    public int drop() {
        if (tokenCount == 0) {
            return -1;
        }
        tokenCount--;
        return tokenCount;
    }

    public int clear() {
        int before = tokenCount;
        tokenCount = 0;
        return before;
    }

    public int rows(int table) {
        return isTable(table) ? rowCount[table] : -1;
    }

    public int cell(int table, int row, int column) {
        if (!isTable(table) || !isColumn(column) || !isRow(table, row)) {
            return 0;
        }
        return cells[cellIndex(table, row, column)];
    }

    public int whole() {
        return isWhole() ? 1 : 0;
    }

    public int result() {
        return isWhole() ? evaluate(NONE, NONE) : 0;
    }

    public int reached(int i) {
        if (!isWhole()) {
            return -1;
        }
        if (i < 0 || i >= tokenCount) {
            return -2;
        }
        evaluate(NONE, NONE);
        return timesReached[i];
    }

    public int without(int table, int row) {
        if (!isWhole() || !isTable(table) || !isRow(table, row)) {
            return 0;
        }
        return evaluate(table, row);
    }

    private static boolean isTable(int table) {
        return table >= 0 && table < TABLES;
    }

    private static boolean isColumn(int column) {
        return column >= 0 && column < COLUMNS;
    }

    private boolean isRow(int table, int row) {
        return row >= 0 && row < rowCount[table];
    }

    private static int cellIndex(int table, int row, int column) {
        return (table * MAX_ROWS + row) * COLUMNS + column;
    }

    private boolean isWhole() {
        return depthAt[tokenCount] == 0 && heightAt[tokenCount] == 1;
    }

    private static boolean isToken(int kind, int a) {
        switch (kind) {
            case CONST:
                return a >= -MAX_CONST && a <= MAX_CONST;
            case CELL:
                return a >= 0 && a < MAX_BLOCKS * COLUMNS;
            case ROWS:
                return isTable(a);
            default:
                return kind >= CONST && kind <= KINDS;
        }
    }

    private static boolean isEnding(int kind) {
        return kind >= COUNT;
    }

    private static boolean endsWithNumber(int kind) {
        return kind >= SUM;
    }

    private static boolean takesTwo(int kind) {
        return kind >= ADD && kind <= EITHER;
    }

    private boolean hasItsNeeds(int kind) {
        int opener = openerAt[tokenCount];
        int base = opener == NONE ? 0 : heightAt[opener];
        int numbers = heightAt[tokenCount] - base;
        if (takesTwo(kind)) {
            return numbers >= 2;
        }
        if (kind == NOT) {
            return numbers >= 1;
        }
        if (kind == WHERE || endsWithNumber(kind)) {
            return opener != NONE && numbers == 1;
        }
        if (isEnding(kind)) {
            return opener != NONE && numbers == 0;
        }
        return true;
    }

    private boolean hasRoom(int kind) {
        if (kind == ROWS) {
            return depthAt[tokenCount] < MAX_BLOCKS;
        }
        if (kind == CONST || kind == CELL || kind == COUNT || kind == ANY) {
            return heightAt[tokenCount] < MAX_NUMBERS;
        }
        return true;
    }

    private void append(int kind, int a) {
        int at = tokenCount;
        kinds[at] = kind;
        operands[at] = a;
        tokenCount = at + 1;
        if (kind == ROWS) {
            setPlace(at + 1, heightAt[at], depthAt[at] + 1, at);
        } else if (isEnding(kind)) {
            int opener = openerAt[at];
            closerOf[opener] = at;
            setPlace(at + 1, heightAt[opener] + 1, depthAt[opener], openerAt[opener]);
        } else {
            int height = heightAt[at] + heightChange(kind);
            setPlace(at + 1, height, depthAt[at], openerAt[at]);
        }
    }

    private void setPlace(int place, int height, int depth, int opener) {
        heightAt[place] = height;
        depthAt[place] = depth;
        openerAt[place] = opener;
    }

    private static int heightChange(int kind) {
        if (kind == CONST || kind == CELL) {
            return 1;
        }
        return kind == NOT ? 0 : -1;
    }

    private int evaluate(int tableOfAbsent, int numberOfAbsent) {
        absentTable = tableOfAbsent;
        absentRow = numberOfAbsent;
        for (int i = 0; i < MAX_TOKENS; i++) {
            timesReached[i] = 0;
        }
        int at = 0;
        for (int step = 0; step < MAX_STEPS && at < tokenCount; step++) {
            timesReached[at]++;
            at = workOut(at);
        }
        return stack[0];
    }

    // Answers the place of the token that comes next.
    private int workOut(int at) {
        int kind = kinds[at];
        if (kind == ROWS) {
            beginBlock(at);
            return goToNextRow(at);
        }
        if (kind == WHERE) {
            boolean leftOut = stack[heightAt[at] - 1] == 0;
            return leftOut ? goToNextRow(openerAt[at]) : at + 1;
        }
        if (isEnding(kind)) {
            keepRow(at);
            return goToNextRow(openerAt[at]);
        }
        putNumber(at);
        return at + 1;
    }

    private void beginBlock(int opener) {
        int block = depthAt[opener];
        tableOfBlock[block] = operands[opener];
        rowAtHand[block] = -1;
        outcome[block] = 0;
        keptRows[block] = 0;
    }

    private int goToNextRow(int opener) {
        int block = depthAt[opener];
        int table = tableOfBlock[block];
        int row = rowAtHand[block] + 1;
        if (table == absentTable && row == absentRow) {
            row++;
        }
        if (row < rowCount[table]) {
            rowAtHand[block] = row;
            return opener + 1;
        }
        stack[heightAt[opener]] = outcome[block];
        return closerOf[opener] + 1;
    }

    private void keepRow(int closer) {
        int kind = kinds[closer];
        int block = depthAt[closer] - 1;
        if (kind == COUNT) {
            outcome[block]++;
        } else if (kind == ANY) {
            outcome[block] = 1;
        } else {
            keepNumber(kind, block, stack[heightAt[closer] - 1]);
        }
    }

    private void keepNumber(int kind, int block, int n) {
        boolean first = keptRows[block] == 0;
        if (kind == SUM) {
            outcome[block] += n;
        } else if (kind == MOST) {
            outcome[block] = first || n > outcome[block] ? n : outcome[block];
        } else if (kind == LEAST) {
            outcome[block] = first || n < outcome[block] ? n : outcome[block];
        } else if (!isKept(block, n)) {
            outcome[block]++;
        }
        keptNumbers[block * MAX_ROWS + keptRows[block]] = n;
        keptRows[block]++;
    }

    private boolean isKept(int block, int n) {
        for (int i = 0; i < keptRows[block]; i++) {
            if (keptNumbers[block * MAX_ROWS + i] == n) {
                return true;
            }
        }
        return false;
    }

    private void putNumber(int at) {
        int kind = kinds[at];
        int height = heightAt[at];
        if (kind == CONST) {
            stack[height] = operands[at];
        } else if (kind == CELL) {
            stack[height] = cellAtHand(operands[at]);
        } else if (kind == NOT) {
            stack[height - 1] = stack[height - 1] == 0 ? 1 : 0;
        } else {
            stack[height - 2] = combine(kind, stack[height - 2], stack[height - 1]);
        }
    }

    private int cellAtHand(int operand) {
        int block = operand / COLUMNS;
        return cells[cellIndex(tableOfBlock[block], rowAtHand[block], operand % COLUMNS)];
    }

    private static int combine(int kind, int n, int m) {
        switch (kind) {
            case ADD:
                return n + m;
            case SUB:
                return n - m;
            case MUL:
                return n * m;
            case LESS:
                return n < m ? 1 : 0;
            case EQUAL:
                return n == m ? 1 : 0;
            case BOTH:
                return n != 0 && m != 0 ? 1 : 0;
            default:
                return n != 0 || m != 0 ? 1 : 0;
        }
    }
}
