import java.util.ArrayDeque;
import java.util.ArrayList;
import java.util.Arrays;
import java.util.Deque;
import java.util.List;
import java.util.Random;

/** Runs of calls from fixed seeds, each answer held against the plain model's. */
public final class RandomRunsTest {
    private static final int RUNS = 6000;
    private static final int MOST_CALLS = 512;
    // A run and what is read behind it, and a whole query, must find room behind these.
    private static final int LAST_CALL = 480;
    private static final int LAST_ROW = 250;
    private static final int LAST_START = 200;
    private static final int ANYWHERE = 0;
    private static final int IN_GROUPS = 1;
    private static final String[] OUTCOMES = {
        "", "-1", "-2", "-3", "no row", "one row", "rows that are all kept", "more rows than are kept"
    };
    private static final long[] NUMBERS = {
        0, 1, 2, 3, -1, -2, 7, 100, Long.MAX_VALUE, Long.MIN_VALUE, 1L << 32, -7
    };
    private static final long[] BYTES = {
        97, 98, 0, 255, 128, 0x6100, 0x6162, 0x6161, 0x616263646566L, -1, 0x8061626364656667L, 0x6162636465666768L
    };

    private final Check check;
    private final Random random;
    private final QueryRunner got = new QueryRunner();
    private final PlainModel due = new PlainModel();
    private final Deque<String> last = new ArrayDeque<>();
    private final int seed;
    private int calls;
    private final int[] types = new int[3];
    private final int[] widths = new int[3];
    private final List<int[]> groups = new ArrayList<>();
    private final long[] outcomes;

    private RandomRunsTest(Check check, int seed, long[] outcomes) {
        this.check = check;
        this.seed = seed;
        this.outcomes = outcomes;
        this.random = new Random(seed);
    }

    public static void main(String[] args) {
        Check check = new Check("RandomRunsTest");
        long[] outcomes = new long[OUTCOMES.length];
        for (int seed = 1; seed <= RUNS && check.isClean(); seed++) {
            new RandomRunsTest(check, seed, outcomes).goThrough();
        }
        for (int i = 1; i < OUTCOMES.length; i++) {
            check.yes("often enough " + OUTCOMES[i] + ": " + outcomes[i], outcomes[i] >= RUNS / 100);
        }
        System.out.println("RandomRunsTest: " + Arrays.toString(OUTCOMES) + " " + Arrays.toString(outcomes));
        check.done();
    }

    private void goThrough() {
        int style = random.nextInt(4);
        while (calls < LAST_START && check.isClean()) {
            if (style > 0) {
                fillTables(style);
                query();
            }
            int chance = random.nextInt(style == 0 ? LAST_CALL : 60);
            for (int i = 0; i < chance && calls < LAST_CALL && check.isClean(); i++) {
                one(style);
            }
            reset();
        }
        check.yes("seed " + seed + " keeps to " + MOST_CALLS + " calls", calls <= MOST_CALLS);
    }

    private void fillTables(int style) {
        int tables = 1 + random.nextInt(3);
        for (int table = 0; table < tables; table++) {
            int many = 1 + random.nextInt(3);
            int digits = digits(many);
            types[table] = digits;
            widths[table] = many;
            same("table(" + many + ", " + digits + ")", got.table(many, digits), due.table(many, digits));
            int most = style == 3 ? 40 : style == 2 ? 14 : 6;
            int rows = random.nextInt(10) == 0 ? 0 : 1 + random.nextInt(most);
            for (int row = 0; row < rows && calls < LAST_ROW; row++) {
                fillRow(table, many, digits);
            }
        }
    }

    /** A query that is not refused for its form, though it may be for the number of combinations. */
    private void query() {
        boolean grouped = random.nextInt(3) == 0;
        groups.clear();
        int wanted = grouped ? random.nextInt(3) : 0;
        for (int i = 0; i < wanted; i++) {
            int table = random.nextInt(due.tableCount());
            int column = random.nextInt(widths[table]);
            groups.add(new int[] {table, column});
            int node = column(table, column);
            same("group(" + node + ")", bit(got.group(node)), bit(due.group(node)));
        }
        if (random.nextBoolean()) {
            int node = expression(3, 3, ANYWHERE);
            same("where(" + node + ")", bit(got.where(node)), bit(due.where(node)));
        }
        int items = 1 + random.nextInt(3);
        for (int i = 0; i < items; i++) {
            int node = expression(1 + random.nextInt(3), random.nextInt(4), grouped ? IN_GROUPS : ANYWHERE);
            same("item(" + node + ")", got.item(node), due.item(node));
        }
        int orders = random.nextInt(3);
        for (int i = 0; i < orders; i++) {
            order();
        }
        distinct(random.nextInt(3) == 0);
        if (random.nextInt(4) == 0) {
            int n = random.nextInt(20);
            same("limit(" + n + ")", bit(got.limit(n)), bit(due.limit(n)));
        }
        runAndRead();
    }

    /** A node of a type; its columns may be anywhere, or outside aggregates those of the groups alone. */
    private int expression(int type, int depth, int columns) {
        int pick = random.nextInt(10);
        if (columns == IN_GROUPS && (pick < 5 || depth == 0)) {
            return aggregate(type, depth);
        }
        if (depth == 0 || pick == 9) {
            return leaf(type, columns);
        }
        if (type == 1) {
            int kind = 10 + random.nextInt(6);
            int a = expression(1, depth - 1, columns);
            return make(kind, a, kind == 10 ? 0 : expression(1, depth - 1, columns));
        }
        if (type == 2) {
            int a = expression(2, depth - 1, columns);
            return make(16, a, expression(2, depth - 1, columns));
        }
        int kind = 17 + random.nextInt(11);
        int under = kind >= 25 ? 3 : 1 + random.nextInt(3);
        int a = expression(under, depth - 1, columns);
        return make(kind, a, kind >= 23 && kind <= 25 ? 0 : expression(under, depth - 1, columns));
    }

    private int aggregate(int type, int depth) {
        int inner = Math.max(0, depth - 1);
        if (type == 2) {
            return make(8 + random.nextInt(2), expression(2, inner, ANYWHERE), 0);
        }
        if (type == 3) {
            return make(23 + random.nextInt(2), aggregate(1 + random.nextInt(2), inner), 0);
        }
        int kind = 5 + random.nextInt(5);
        return make(kind, kind == 5 ? 0 : expression(kind == 6 ? 1 + random.nextInt(3) : 1, inner, ANYWHERE), 0);
    }

    private int leaf(int type, int columns) {
        for (int tries = 0; tries < 6; tries++) {
            int table = random.nextInt(due.tableCount());
            int column = random.nextInt(widths[table]);
            if (columns == IN_GROUPS && !groups.isEmpty()) {
                int[] group = groups.get(random.nextInt(groups.size()));
                table = group[0];
                column = group[1];
            }
            boolean open = columns == ANYWHERE || !groups.isEmpty();
            if (open && String.valueOf(types[table]).charAt(widths[table] - 1 - column) - '0' == type) {
                return column(table, column);
            }
        }
        clear();
        if (random.nextInt(8) > 0) {
            fillCell(0, type);
        }
        return constant();
    }

    private int digits(int many) {
        int digits = 0;
        for (int i = 0; i < many; i++) {
            digits = digits * 10 + 1 + random.nextInt(3);
        }
        return digits;
    }

    private void fillRow(int table, int many, int digits) {
        clear();
        int rest = digits;
        for (int i = 0; i < many; i++) {
            if (random.nextInt(4) > 0) {
                fillCell(i, rest % 10);
            }
            rest /= 10;
        }
        add(table);
    }

    private void fillCell(int column, int type) {
        if (type == 1) {
            cell(column);
        } else if (type == 2) {
            text(column);
        } else {
            truth(column);
        }
    }

    private int near(int many) {
        int pick = random.nextInt(20);
        return pick == 0 ? -1 : pick == 1 ? many : pick == 2 ? random.nextInt() : random.nextInt(Math.max(1, many));
    }

    private void one(int style) {
        int pick = random.nextInt(100);
        if (pick < 4 && random.nextInt(style == 0 ? 3 : 40) == 0) {
            reset();
        } else if (pick < 6) {
            int many = near(9);
            int digits = random.nextInt(4) == 0 ? random.nextInt() : digits(Math.max(0, Math.min(9, many)));
            same("table(" + many + ", " + digits + ")", got.table(many, digits), due.table(many, digits));
        } else if (pick < 8) {
            clear();
        } else if (pick < 20) {
            fillCell(random.nextInt(3) > 0 ? 0 : near(8), 1 + random.nextInt(3));
        } else if (pick < 24) {
            add(near(due.tableCount()));
        } else if (pick < 36) {
            column(near(due.tableCount()), near(4));
        } else if (pick < 44) {
            constant();
        } else if (pick < 70) {
            node();
        } else {
            clause(pick);
        }
    }

    private void node() {
        int kind = random.nextInt(10) == 0 ? near(30) : 5 + random.nextInt(23);
        // Late nodes are the ones that are most often free.
        int a = random.nextBoolean() ? due.nodeCount() - 1 - random.nextInt(6) : near(due.nodeCount());
        int b = random.nextBoolean() ? due.nodeCount() - 1 - random.nextInt(6) : near(due.nodeCount());
        make(kind, a, b);
    }

    private void clause(int pick) {
        int node = random.nextInt(3) > 0 ? due.nodeCount() - 1 - random.nextInt(4) : near(due.nodeCount());
        if (pick < 73) {
            same("type(" + node + ")", got.type(node), due.type(node));
        } else if (pick < 76) {
            int chosen = random.nextInt(3) == 0 ? -1 : node;
            same("where(" + chosen + ")", bit(got.where(chosen)), bit(due.where(chosen)));
        } else if (pick < 78) {
            same("item(" + node + ")", got.item(node), due.item(node));
        } else if (pick < 79) {
            same("group(" + node + ")", bit(got.group(node)), bit(due.group(node)));
        } else if (pick < 81) {
            order();
        } else if (pick < 82) {
            int n = random.nextInt(3) > 0 ? -1 : random.nextInt(5) == 0 ? random.nextInt() : random.nextInt(80) - 3;
            same("limit(" + n + ")", bit(got.limit(n)), bit(due.limit(n)));
        } else if (pick < 84) {
            distinct(random.nextBoolean());
        } else if (pick < 88) {
            runAndRead();
        } else {
            read(64);
        }
    }

    private void read(int rows) {
        int row = near(Math.min(66, rows));
        int item = near(due.itemCount());
        int i = random.nextInt(3) == 0 ? near(32) : random.nextInt(3);
        String where = row + ", " + item;
        same("kind(" + where + ")", got.kind(row, item), due.kind(row, item));
        same("value(" + where + ")", got.value(row, item), due.value(row, item));
        same("letter(" + where + ", " + i + ")", got.letter(row, item, i), due.letter(row, item, i));
    }

    private void runAndRead() {
        int rows = due.run();
        same("run()", got.run(), rows);
        outcomes[rows < 0 ? -rows : rows == 0 ? 4 : rows == 1 ? 5 : rows <= 64 ? 6 : 7]++;
        for (int i = 0; i < 8; i++) {
            read(rows);
        }
    }

    private int column(int table, int column) {
        int made = due.column(table, column);
        same("column(" + table + ", " + column + ")", got.column(table, column), made);
        return made;
    }

    private int constant() {
        int made = due.constant();
        same("constant()", got.constant(), made);
        return made;
    }

    private int make(int kind, int a, int b) {
        int made = due.node(kind, a, b);
        same("node(" + kind + ", " + a + ", " + b + ")", got.node(kind, a, b), made);
        return made;
    }

    private void order() {
        int item = near(due.itemCount());
        boolean falling = random.nextBoolean();
        same("order(" + item + ", " + falling + ")", bit(got.order(item, falling)), bit(due.order(item, falling)));
    }

    private void distinct(boolean on) {
        got.distinct(on);
        due.distinct(on);
        told("distinct(" + on + ")");
    }

    private void reset() {
        got.reset();
        due.reset();
        told("reset()");
    }

    private void clear() {
        got.clear();
        due.clear();
        told("clear()");
    }

    private void cell(int column) {
        long value = NUMBERS[random.nextInt(NUMBERS.length)];
        same("cell(" + column + ", " + value + ")", bit(got.cell(column, value)), bit(due.cell(column, value)));
    }

    private void truth(int column) {
        boolean value = random.nextBoolean();
        same("truth(" + column + ", " + value + ")", bit(got.truth(column, value)), bit(due.truth(column, value)));
    }

    private void text(int column) {
        long bytes = BYTES[random.nextInt(BYTES.length)];
        int n = random.nextInt(10) == 0 ? near(9) : random.nextInt(random.nextBoolean() ? 3 : 9);
        String call = "text(" + column + ", " + bytes + ", " + n + ")";
        same(call, bit(got.text(column, bytes, n)), bit(due.text(column, bytes, n)));
    }

    private void add(int table) {
        same("add(" + table + ")", got.add(table), due.add(table));
    }

    private static long bit(boolean answer) {
        return answer ? 1 : 0;
    }

    private void told(String call) {
        calls++;
        last.addLast(call);
    }

    private void same(String call, long answer, long wanted) {
        told(call);
        check.same("seed " + seed + " " + call, answer, wanted);
        if (answer != wanted) {
            System.out.println("the calls before: " + last);
        }
    }
}
