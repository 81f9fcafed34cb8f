import java.util.ArrayList;
import java.util.HashSet;
import java.util.List;
import java.util.Set;

/** Many runs of calls, the same ones each time, against a second program that is recursive. */
public final class ModelTest {
    private static final int RUNS = 3000;
    private static final int CALLS = 512;

    /** The document once more, with lists: the shape of a program is found anew at each call. */
    private static final class Model {
        final List<List<int[]>> tables = new ArrayList<>();
        final List<int[]> tokens = new ArrayList<>();
        final List<Integer> stack = new ArrayList<>();
        int[] times = new int[0];

        Model() {
            for (int i = 0; i < 3; i++) {
                tables.add(new ArrayList<>());
            }
        }

        boolean noTable(int table) {
            return table < 0 || table > 2;
        }

        boolean noRow(int table, int row) {
            return row < 0 || row >= tables.get(table).size();
        }

        int add(int table, int a, int b, int c) {
            if (noTable(table)) return -1;
            if (tables.get(table).size() == 6) return -2;
            tables.get(table).add(new int[] {a, b, c});
            return tables.get(table).size();
        }

        int remove(int table, int row) {
            if (noTable(table)) return -1;
            if (noRow(table, row)) return -2;
            tables.get(table).remove(row);
            return tables.get(table).size();
        }

        int store(int table, int row, int column) {
            if (noTable(table) || column < 0 || column > 2) return -1;
            if (noRow(table, row)) return -2;
            if (whole() == 0) return -3;
            tables.get(table).get(row)[column] = result();
            return 1;
        }

        /** How many numbers are on the stack outside all blocks, then in each open block. */
        List<Integer> levels() {
            List<Integer> levels = new ArrayList<>(List.of(0));
            for (int[] token : tokens) {
                int kind = token[0];
                int last = levels.size() - 1;
                int numbers = levels.get(last);
                if (kind <= 1) {
                    levels.set(last, numbers + 1);
                } else if (kind <= 8 || kind == 11) {
                    levels.set(last, numbers - 1);
                } else if (kind == 10) {
                    levels.add(0);
                } else if (kind >= 12) {
                    levels.remove(last);
                    levels.set(last - 1, levels.get(last - 1) + 1);
                }
            }
            return levels;
        }

        int token(int kind, int a) {
            if (kind < 0 || kind > 17) return -1;
            if (kind == 0 && (a < -99 || a > 99)) return -1;
            if (kind == 1 && (a < 0 || a > 8)) return -1;
            if (kind == 10 && noTable(a)) return -1;
            if (tokens.size() == 48) return -2;
            List<Integer> levels = levels();
            int open = levels.size() - 1;
            int own = levels.get(open);
            int all = 0;
            for (int numbers : levels) all += numbers;
            if (kind == 1 && a / 3 + 1 > open) return -3;
            if (kind >= 2 && kind <= 8 && own < 2) return -4;
            if (kind == 9 && own < 1) return -4;
            if (kind >= 11 && open == 0) return -4;
            if ((kind == 12 || kind == 13) && own != 0) return -4;
            if ((kind == 11 || kind >= 14) && own != 1) return -4;
            if ((kind <= 1 || kind == 12 || kind == 13) && all == 6) return -5;
            if (kind == 10 && open == 3) return -5;
            tokens.add(new int[] {kind, a});
            return tokens.size();
        }

        int drop() {
            if (tokens.isEmpty()) return -1;
            tokens.remove(tokens.size() - 1);
            return tokens.size();
        }

        int clear() {
            int before = tokens.size();
            tokens.clear();
            return before;
        }

        int rows(int table) {
            return noTable(table) ? -1 : tables.get(table).size();
        }

        int cell(int table, int row, int column) {
            if (noTable(table) || column < 0 || column > 2 || noRow(table, row)) return 0;
            return tables.get(table).get(row)[column];
        }

        int whole() {
            return levels().equals(List.of(1)) ? 1 : 0;
        }

        int result() {
            if (whole() == 0) return 0;
            stack.clear();
            times = new int[tokens.size()];
            work(0, tokens.size(), new ArrayList<>());
            return stack.get(0);
        }

        int reached(int i) {
            if (whole() == 0) return -1;
            if (i < 0 || i >= tokens.size()) return -2;
            result();
            return times[i];
        }

        int without(int table, int row) {
            if (whole() == 0 || noTable(table) || noRow(table, row)) return 0;
            int[] taken = tables.get(table).remove(row);
            int answer = result();
            tables.get(table).add(row, taken);
            return answer;
        }

        int pop() {
            return stack.remove(stack.size() - 1);
        }

        int endOf(int opener) {
            int open = 1;
            int at = opener;
            while (open > 0) {
                at++;
                int kind = tokens.get(at)[0];
                open += kind == 10 ? 1 : kind >= 12 ? -1 : 0;
            }
            return at;
        }

        /** Works tokens out from one place to another; false if a WHERE left the row out. */
        boolean work(int from, int to, List<int[]> atHand) {
            for (int at = from; at < to; at++) {
                times[at]++;
                int kind = tokens.get(at)[0];
                int a = tokens.get(at)[1];
                if (kind == 0) {
                    stack.add(a);
                } else if (kind == 1) {
                    stack.add(atHand.get(a / 3)[a % 3]);
                } else if (kind <= 8) {
                    int m = pop();
                    int n = pop();
                    stack.add(both(kind, n, m));
                } else if (kind == 9) {
                    stack.add(pop() == 0 ? 1 : 0);
                } else if (kind == 10) {
                    int end = endOf(at);
                    int outcome = block(at, end, atHand);
                    stack.add(outcome);
                    at = end;
                } else if (pop() == 0) {
                    return false;
                }
            }
            return true;
        }

        int both(int kind, int n, int m) {
            switch (kind) {
                case 2: return (int) ((long) n + m);
                case 3: return (int) ((long) n - m);
                case 4: return (int) ((long) n * m);
                case 5: return Integer.compare(n, m) < 0 ? 1 : 0;
                case 6: return Integer.compare(n, m) == 0 ? 1 : 0;
                case 7: return n == 0 || m == 0 ? 0 : 1;
                default: return n == 0 && m == 0 ? 0 : 1;
            }
        }

        int block(int opener, int end, List<int[]> atHand) {
            int kind = tokens.get(end)[0];
            List<Integer> found = new ArrayList<>();
            for (int[] row : tables.get(tokens.get(opener)[1])) {
                List<int[]> inner = new ArrayList<>(atHand);
                inner.add(row);
                if (work(opener + 1, end, inner)) {
                    times[end]++;
                    found.add(kind >= 14 ? pop() : 1);
                }
            }
            long sum = 0;
            for (int n : found) sum += n;
            Set<Integer> different = new HashSet<>(found);
            if (kind == 12) return found.size();
            if (kind == 13) return found.isEmpty() ? 0 : 1;
            if (kind == 14) return (int) sum;
            if (kind == 17) return different.size();
            if (found.isEmpty()) return 0;
            return kind == 15 ? found.stream().max(Integer::compare).get() : found.stream().min(Integer::compare).get();
        }
    }

    private static long seed = 1;

    /** A number from 0 to below the bound, by a fixed rule: every run of the test is the same. */
    private static int below(int bound) {
        seed = seed * 6364136223846793005L + 1442695040888963407L;
        return (int) ((seed >>> 33) % bound);
    }

    private static int near(int low, int high) {
        return below(20) == 0 ? (below(2) == 0 ? low - 1 : high + 1) : low + below(high - low + 1);
    }

    private static int number() {
        switch (below(12)) {
            case 0: return Integer.MIN_VALUE + below(3);
            case 1: return Integer.MAX_VALUE - below(3);
            case 2: return below(Integer.MAX_VALUE) * 2;
            default: return below(7) - 2;
        }
    }

    /** Most of the kinds asked for are such as the program can take, so that it gets long. */
    private static int kindFor(Model model) {
        if (below(8) == 0) return near(0, 17);
        List<Integer> levels = model.levels();
        int open = levels.size() - 1;
        int own = levels.get(open);
        int choice = below(10);
        if (own == 0) {
            if (open > 0 && choice == 0) return 12 + below(2);
            if (open < 3 && choice < 5) return 10;
            return open > 0 ? 1 : 0;
        }
        if (own == 1) {
            if (open > 0 && choice < 3) return 14 + below(4);
            if (open > 0 && choice < 5) return 11;
            if (open < 3 && choice < 7) return 10;
            return choice == 7 ? 9 : open > 0 ? below(2) : 0;
        }
        return choice < 7 ? 2 + below(7) : choice == 7 ? 10 : choice == 8 ? 9 : open > 0 ? 1 : 0;
    }

    private static int operandFor(int kind, Model model) {
        if (kind == 0) return below(3) == 0 ? near(-99, 99) : below(4) - 1;
        if (kind == 1) {
            int open = model.levels().size() - 1;
            return below(12) == 0 ? near(0, 8) : below(Math.max(1, 3 * open));
        }
        return kind == 10 ? near(0, 2) : number();
    }

    private static final String[] NAMES = {"add", "remove", "store", "token", "drop", "clear",
        "rows", "cell", "whole", "result", "reached", "without"};

    private static int wholeSeen = 0;

    private static boolean sameAnswer(int run, int call, RowQueries x, Model model) {
        int pick = below(100);
        int name;
        int[] p = {near(0, 2), 0, 0, 0};
        p[1] = near(0, Math.max(0, p[0] < 0 || p[0] > 2 ? 5 : model.rows(p[0]) - 1));
        p[2] = near(0, 2);
        int got;
        int want;
        if (pick < 8) {
            name = 0;
            p[1] = number();
            p[2] = number();
            p[3] = number();
            got = x.add(p[0], p[1], p[2], p[3]);
            want = model.add(p[0], p[1], p[2], p[3]);
        } else if (pick < 11) {
            name = 1;
            got = x.remove(p[0], p[1]);
            want = model.remove(p[0], p[1]);
        } else if (pick < 15) {
            name = 2;
            got = x.store(p[0], p[1], p[2]);
            want = model.store(p[0], p[1], p[2]);
        } else if (pick < 60) {
            name = 3;
            p[0] = kindFor(model);
            p[1] = operandFor(p[0], model);
            got = x.token(p[0], p[1]);
            want = model.token(p[0], p[1]);
        } else if (pick < 66) {
            name = 4;
            got = x.drop();
            want = model.drop();
        } else if (pick == 66 && below(3) == 0) {
            name = 5;
            got = x.clear();
            want = model.clear();
        } else if (pick < 69) {
            name = 6;
            got = x.rows(p[0]);
            want = model.rows(p[0]);
        } else if (pick < 74) {
            name = 7;
            got = x.cell(p[0], p[1], p[2]);
            want = model.cell(p[0], p[1], p[2]);
        } else if (pick < 78) {
            name = 8;
            got = x.whole();
            want = model.whole();
            wholeSeen += want;
        } else if (pick < 84) {
            name = 9;
            got = x.result();
            want = model.result();
        } else if (pick < 93) {
            name = 10;
            p[0] = near(0, Math.max(0, model.tokens.size() - 1));
            got = x.reached(p[0]);
            want = model.reached(p[0]);
        } else {
            name = 11;
            got = x.without(p[0], p[1]);
            want = model.without(p[0], p[1]);
        }
        if (got != want) {
            System.out.println("run " + run + ", call " + call + ": " + NAMES[name] + " with (of) " + p[0] + ", "
                    + p[1] + ", " + p[2] + ", " + p[3] + " answered " + got + ", due is " + want);
        }
        return got == want;
    }

    public static void main(String[] args) {
        int wrong = 0;
        for (int run = 0; run < RUNS; run++) {
            RowQueries x = new RowQueries();
            Model model = new Model();
            boolean same = true;
            for (int call = 0; call < CALLS && same; call++) {
                same = sameAnswer(run, call, x, model);
            }
            wrong += same ? 0 : 1;
        }
        if (wholeSeen < RUNS) {
            System.out.println("only " + wholeSeen + " whole programs were seen: the runs test too little");
            wrong++;
        }
        System.out.println(wrong == 0 ? "all answers are as due" : wrong + " runs are not as due");
        if (wrong != 0) {
            System.exit(1);
        }
    }
}
