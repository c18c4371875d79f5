import java.util.Arrays;

/** Queries over up to three tables of rows; expressions are built node by node. */
public final class QueryRunner {
    private static final int NONE = -1;
    private static final int REFUSED = -1;
    private static final int TOO_MANY = -2;
    private static final int LOOSE_COLUMN = -3;

    private static final int MOST_TABLES = 3;
    private static final int MOST_COLUMNS = 8;
    private static final int MOST_ROWS = 40;
    private static final int MOST_NODES = 200;
    private static final int MOST_ITEMS = 8;
    private static final int MOST_GROUPS = 4;
    private static final int MOST_ORDERS = 4;
    private static final int MOST_BYTES = 31;
    private static final int MOST_BYTES_A_CALL = 8;
    private static final int MOST_COMBINATIONS = 40000;
    private static final int MOST_COUNTING = 2000;
    private static final int MOST_KEPT = 64;

    private static final int NULL = 0;
    private static final int INT = 1;
    private static final int TEXT = 2;
    private static final int BOOL = 3;

    private static final int COLUMN = 4;
    private static final int ROWS = 5;
    private static final int PRESENT = 6;
    private static final int SUM = 7;
    private static final int LEAST = 8;
    private static final int GREATEST = 9;
    private static final int MINUS = 10;
    private static final int PLUS = 11;
    private static final int LESS_BY = 12;
    private static final int TIMES = 13;
    private static final int QUOTIENT = 14;
    private static final int REMAINDER = 15;
    private static final int JOINED = 16;
    private static final int EQUAL = 17;
    private static final int UNEQUAL = 18;
    private static final int BELOW = 19;
    private static final int AT_MOST = 20;
    private static final int ABOVE = 21;
    private static final int AT_LEAST = 22;
    private static final int IS_NULL = 23;
    private static final int IS_NOT_NULL = 24;
    private static final int NOT = 25;
    private static final int AND = 26;
    private static final int OR = 27;

    private final Values hand;
    private final Tables tables;
    private final Nodes nodes;
    private final Query query;
    private final Answer answer;
    private final Runner runner;

    public QueryRunner() {
        hand = new Values(MOST_COLUMNS);
        tables = new Tables();
        nodes = new Nodes();
        query = new Query();
        answer = new Answer();
        runner = new Runner(tables, nodes, query);
    }

    public void reset() {
        hand.setAllNull();
        tables.many = 0;
        nodes.many = 0;
        query.forget();
        answer.rows = 0;
    }

    public int table(int many, int types) {
        return tables.create(many, types);
    }

    public void clear() {
        hand.setAllNull();
    }

    public boolean cell(int column, long value) {
        if (!isCell(column)) {
            return false;
        }
        hand.setNumber(column, value);
        return true;
    }

    public boolean truth(int column, boolean value) {
        if (!isCell(column)) {
            return false;
        }
        hand.setTruth(column, value);
        return true;
    }

    public boolean text(int column, long bytes, int n) {
        if (!isCell(column) || n < 0 || n > MOST_BYTES_A_CALL) {
            return false;
        }
        boolean wasText = hand.kinds[column] == TEXT;
        if (wasText && hand.lengthOf(column) + n > MOST_BYTES) {
            return false;
        }
        if (!wasText) {
            hand.setEmptyText(column);
        }
        for (int i = n - 1; i >= 0; i--) {
            hand.appendByte(column, (int) (bytes >>> (8 * i)) & 255);
        }
        return true;
    }

    public int add(int table) {
        return tables.append(table, hand);
    }

    public int column(int table, int column) {
        if (!tables.hasColumn(table, column) || nodes.isFull()) {
            return REFUSED;
        }
        return nodes.addColumn(table, column, tables.typeOf(table, column));
    }

    public int constant() {
        if (nodes.isFull()) {
            return REFUSED;
        }
        return nodes.addConstant(hand, 0);
    }

    public int node(int kind, int a, int b) {
        if (kind < ROWS || kind > OR || nodes.isFull()) {
            return REFUSED;
        }
        int parts = Nodes.partsOf(kind);
        return nodes.addComputed(kind, parts >= 1 ? a : NONE, parts == 2 ? b : NONE);
    }

    public int type(int node) {
        if (!nodes.has(node)) {
            return NONE;
        }
        return nodes.types[node] + (nodes.aggregated[node] ? 10 : 0);
    }

    public boolean where(int node) {
        if (node != NONE && !nodes.canBeCondition(node)) {
            return false;
        }
        query.condition = node;
        return true;
    }

    public int item(int node) {
        if (!nodes.has(node)) {
            return REFUSED;
        }
        return query.addItem(node);
    }

    public boolean group(int node) {
        if (!nodes.has(node) || nodes.kinds[node] != COLUMN) {
            return false;
        }
        return query.addGroup(nodes.tableOf[node], nodes.columnOf[node]);
    }

    public boolean order(int item, boolean falling) {
        return query.addOrder(item, falling);
    }

    public boolean limit(int n) {
        if (n < NONE) {
            return false;
        }
        query.most = n;
        return true;
    }

    public void distinct(boolean on) {
        query.onlyDifferent = on;
    }

    public int run() {
        if (tables.many == 0 || query.items == 0) {
            return REFUSED;
        }
        runner.plan();
        if (runner.hasLooseColumn()) {
            return LOOSE_COLUMN;
        }
        if (tables.product() > MOST_COMBINATIONS) {
            return TOO_MANY;
        }
        int counting = runner.gather();
        if (counting > MOST_COUNTING) {
            return TOO_MANY;
        }
        int rows = runner.makeRows(counting);
        for (int row = 0; row < rows; row++) {
            runner.workOutRow(row);
        }
        int left = runner.rankRows(rows);
        runner.sortRanks(left);
        int many = query.cutToLimit(left);
        answer.keep(runner.room, many, query.items);
        return many;
    }

    public int kind(int row, int item) {
        return answer.has(row, item) ? answer.cells.kinds[answer.placeOf(row, item)] : NONE;
    }

    public long value(int row, int item) {
        if (!answer.has(row, item)) {
            return 0;
        }
        int place = answer.placeOf(row, item);
        switch (answer.cells.kinds[place]) {
            case NULL:
                return 0;
            case TEXT:
                return answer.cells.lengthOf(place);
            default:
                return answer.cells.numberOf(place);
        }
    }

    public int letter(int row, int item, int i) {
        if (!answer.has(row, item)) {
            return NONE;
        }
        int place = answer.placeOf(row, item);
        if (answer.cells.kinds[place] != TEXT || i < 0 || i >= answer.cells.lengthOf(place)) {
            return NONE;
        }
        return answer.cells.byteOf(place, i);
    }

    private static boolean isCell(int column) {
        return column >= 0 && column < MOST_COLUMNS;
    }

    /**
     * Values side by side in two arrays, so that thousands of them cost two objects.
     * A text's bytes fill its words from the top, zeros behind them, and its length is the lowest
     * byte of the last word: comparing the words without sign then compares the texts, because of
     * two with the same bytes and zeros the shorter one has the smaller length.
     */
    private static final class Values {
        private static final int WORDS = 4;
        private static final int LENGTH_WORD = 3;

        final int[] kinds;
        final long[] words;

        Values(int many) {
            kinds = new int[many];
            words = new long[many * WORDS];
        }

        void setAllNull() {
            Arrays.fill(kinds, NULL);
        }

        void setNull(int at) {
            kinds[at] = NULL;
        }

        void setNumber(int at, long number) {
            kinds[at] = INT;
            words[at * WORDS] = number;
        }

        void setTruth(int at, boolean truth) {
            kinds[at] = BOOL;
            words[at * WORDS] = truth ? 1 : 0;
        }

        void setEmptyText(int at) {
            kinds[at] = TEXT;
            for (int i = 0; i < WORDS; i++) {
                words[at * WORDS + i] = 0;
            }
        }

        /** A byte for which a text has no place any more is cut off. */
        void appendByte(int at, int letter) {
            int first = at * WORDS;
            int length = (int) words[first + LENGTH_WORD] & 255;
            if (length < MOST_BYTES) {
                words[first + length / 8] |= (long) letter << (56 - 8 * (length % 8));
                words[first + LENGTH_WORD]++;
            }
        }

        void appendText(int at, int from) {
            int length = lengthOf(from);
            for (int i = 0; i < length; i++) {
                appendByte(at, byteOf(from, i));
            }
        }

        boolean isNull(int at) {
            return kinds[at] == NULL;
        }

        boolean isTruth(int at, boolean truth) {
            return kinds[at] == BOOL && (numberOf(at) != 0) == truth;
        }

        long numberOf(int at) {
            return words[at * WORDS];
        }

        int lengthOf(int at) {
            return (int) (words[at * WORDS + LENGTH_WORD] & 255);
        }

        int byteOf(int at, int i) {
            return (int) (words[at * WORDS + i / 8] >>> (56 - 8 * (i % 8))) & 255;
        }

        private int wordsInUse(int at) {
            switch (kinds[at]) {
                case NULL:
                    return 0;
                case TEXT:
                    return WORDS;
                default:
                    return 1;
            }
        }

        void copy(int at, Values from, int fromAt) {
            int many = from.wordsInUse(fromAt);
            kinds[at] = from.kinds[fromAt];
            for (int i = 0; i < many; i++) {
                words[at * WORDS + i] = from.words[fromAt * WORDS + i];
            }
        }

        boolean areLike(int x, int y) {
            if (kinds[x] != kinds[y]) {
                return false;
            }
            int many = wordsInUse(x);
            for (int i = 0; i < many; i++) {
                if (words[x * WORDS + i] != words[y * WORDS + i]) {
                    return false;
                }
            }
            return true;
        }

        /** Of two values of one type, neither NULL. */
        int compare(int x, int y) {
            boolean texts = kinds[x] == TEXT;
            int many = texts ? WORDS : 1;
            // Turning the highest bit over makes the signed comparison one without sign.
            long turn = texts ? Long.MIN_VALUE : 0;
            for (int i = 0; i < many; i++) {
                long a = words[x * WORDS + i] ^ turn;
                long b = words[y * WORDS + i] ^ turn;
                if (a != b) {
                    return a < b ? -1 : 1;
                }
            }
            return 0;
        }

        int compareNullsLast(int x, int y) {
            if (isNull(x) || isNull(y)) {
                return (isNull(x) ? 1 : 0) - (isNull(y) ? 1 : 0);
            }
            return compare(x, y);
        }

        /** A hash that goes on from that of the values before. */
        long hashOnto(long hash, int at) {
            long mixed = hash * 31 + kinds[at];
            int many = wordsInUse(at);
            for (int i = 0; i < many; i++) {
                mixed = (mixed ^ words[at * WORDS + i]) * 0x9E3779B97F4A7C15L;
                mixed ^= mixed >>> 32;
            }
            return mixed;
        }
    }

    private static final class Tables {
        int many;
        private final int[] widths = new int[MOST_TABLES];
        private final int[] types = new int[MOST_TABLES * MOST_COLUMNS];
        private final int[] rows = new int[MOST_TABLES];
        final Values cells = new Values(MOST_TABLES * MOST_ROWS * MOST_COLUMNS);

        Tables() {
        }

        int create(int width, int digits) {
            if (many >= MOST_TABLES || !areTypes(width, digits)) {
                return REFUSED;
            }
            int rest = digits;
            for (int i = 0; i < width; i++) {
                types[many * MOST_COLUMNS + i] = rest % 10;
                rest /= 10;
            }
            widths[many] = width;
            rows[many] = 0;
            return many++;
        }

        private static boolean areTypes(int width, int digits) {
            if (width < 1 || width > MOST_COLUMNS || digits < 0) {
                return false;
            }
            int rest = digits;
            for (int i = 0; i < width; i++) {
                int digit = rest % 10;
                if (digit < INT || digit > BOOL) {
                    return false;
                }
                rest /= 10;
            }
            return true;
        }

        int append(int table, Values hand) {
            if (!has(table) || rows[table] >= MOST_ROWS || !takes(table, hand)) {
                return REFUSED;
            }
            for (int i = 0; i < widths[table]; i++) {
                cells.copy(placeOf(table, rows[table], i), hand, i);
            }
            rows[table]++;
            return rows[table];
        }

        private boolean takes(int table, Values hand) {
            for (int i = 0; i < widths[table]; i++) {
                if (!hand.isNull(i) && hand.kinds[i] != typeOf(table, i)) {
                    return false;
                }
            }
            return true;
        }

        boolean has(int table) {
            return table >= 0 && table < many;
        }

        boolean hasColumn(int table, int column) {
            return has(table) && column >= 0 && column < widths[table];
        }

        int typeOf(int table, int column) {
            return types[table * MOST_COLUMNS + column];
        }

        int placeOf(int table, int row, int column) {
            return (table * MOST_ROWS + row) * MOST_COLUMNS + column;
        }

        /** A table that is not there has one choice, so that it leaves the combinations as they are. */
        int choicesIn(int table) {
            return has(table) ? rows[table] : 1;
        }

        int product() {
            int product = 1;
            for (int i = 0; i < many; i++) {
                product *= Math.max(1, rows[i]);
            }
            return product;
        }
    }

    /** The nodes, and for each the value that it has for the combination that is looked at. */
    private static final class Nodes {
        int many;
        final int[] kinds = new int[MOST_NODES];
        final int[] types = new int[MOST_NODES];
        final int[] left = new int[MOST_NODES];
        final int[] right = new int[MOST_NODES];
        final int[] tableOf = new int[MOST_NODES];
        final int[] columnOf = new int[MOST_NODES];
        final boolean[] aggregated = new boolean[MOST_NODES];
        private final boolean[] taken = new boolean[MOST_NODES];
        final Values values = new Values(MOST_NODES);

        Nodes() {
        }

        boolean isFull() {
            return many >= MOST_NODES;
        }

        boolean has(int node) {
            return node >= 0 && node < many;
        }

        boolean isAggregate(int node) {
            return isAggregateKind(kinds[node]);
        }

        boolean canBeCondition(int node) {
            return has(node) && isOfType(node, BOOL) && !aggregated[node];
        }

        int addColumn(int table, int column, int type) {
            int made = append(COLUMN, type, NONE, NONE);
            tableOf[made] = table;
            columnOf[made] = column;
            return made;
        }

        int addConstant(Values from, int at) {
            // The kinds of the constants are numbered as the types of their values are.
            int made = append(from.kinds[at], from.kinds[at], NONE, NONE);
            values.copy(made, from, at);
            return made;
        }

        /** The parts that the kind does not have are NONE. */
        int addComputed(int kind, int a, int b) {
            int parts = partsOf(kind);
            if (parts >= 1 && !isFree(a)) {
                return REFUSED;
            }
            if (parts == 2 && (!isFree(b) || a == b)) {
                return REFUSED;
            }
            if (!typesFit(kind, a, b) || (isAggregateKind(kind) && hasAggregate(a))) {
                return REFUSED;
            }
            int made = append(kind, typeOfComputed(kind, a), a, b);
            aggregated[made] = isAggregateKind(kind) || hasAggregate(a) || hasAggregate(b);
            take(a);
            take(b);
            return made;
        }

        private int append(int kind, int type, int a, int b) {
            int made = many;
            kinds[made] = kind;
            types[made] = type;
            left[made] = a;
            right[made] = b;
            aggregated[made] = false;
            taken[made] = false;
            many++;
            return made;
        }

        private boolean isFree(int node) {
            return has(node) && !taken[node];
        }

        private void take(int node) {
            if (has(node)) {
                taken[node] = true;
            }
        }

        private boolean hasAggregate(int node) {
            return has(node) && aggregated[node];
        }

        private boolean isOfType(int node, int type) {
            return types[node] == type || types[node] == NULL;
        }

        private boolean typesFit(int kind, int a, int b) {
            switch (kind) {
                case ROWS:
                case PRESENT:
                case IS_NULL:
                case IS_NOT_NULL:
                    return true;
                case SUM:
                case MINUS:
                    return isOfType(a, INT);
                case LEAST:
                case GREATEST:
                    return types[a] != BOOL;
                case PLUS:
                case LESS_BY:
                case TIMES:
                case QUOTIENT:
                case REMAINDER:
                    return isOfType(a, INT) && isOfType(b, INT);
                case JOINED:
                    return isOfType(a, TEXT) && isOfType(b, TEXT);
                case NOT:
                    return isOfType(a, BOOL);
                case AND:
                case OR:
                    return isOfType(a, BOOL) && isOfType(b, BOOL);
                default:
                    return types[a] == NULL || isOfType(b, types[a]);
            }
        }

        private int typeOfComputed(int kind, int a) {
            if (kind == LEAST || kind == GREATEST) {
                return types[a];
            }
            if (kind == JOINED) {
                return TEXT;
            }
            return kind < JOINED ? INT : BOOL;
        }

        static int partsOf(int kind) {
            if (kind == ROWS) {
                return 0;
            }
            boolean single = kind <= MINUS || (kind >= IS_NULL && kind <= NOT);
            return single ? 1 : 2;
        }

        private static boolean isAggregateKind(int kind) {
            return kind >= ROWS && kind <= GREATEST;
        }
    }

    private static final class Query {
        int items;
        int groups;
        int orders;
        int condition;
        int most;
        boolean onlyDifferent;
        final int[] itemNodes = new int[MOST_ITEMS];
        final int[] groupTables = new int[MOST_GROUPS];
        final int[] groupColumns = new int[MOST_GROUPS];
        final int[] orderItems = new int[MOST_ORDERS];
        final boolean[] orderFalls = new boolean[MOST_ORDERS];

        Query() {
            condition = NONE;
            most = NONE;
        }

        void forget() {
            items = 0;
            groups = 0;
            orders = 0;
            condition = NONE;
            most = NONE;
            onlyDifferent = false;
        }

        int addItem(int node) {
            if (items >= MOST_ITEMS) {
                return REFUSED;
            }
            itemNodes[items] = node;
            return items++;
        }

        boolean addGroup(int table, int column) {
            if (groups >= MOST_GROUPS) {
                return false;
            }
            groupTables[groups] = table;
            groupColumns[groups] = column;
            groups++;
            return true;
        }

        boolean addOrder(int item, boolean falling) {
            if (item < 0 || item >= items || orders >= MOST_ORDERS) {
                return false;
            }
            orderItems[orders] = item;
            orderFalls[orders] = falling;
            orders++;
            return true;
        }

        boolean groupsBy(int table, int column) {
            for (int i = 0; i < groups; i++) {
                if (groupTables[i] == table && groupColumns[i] == column) {
                    return true;
                }
            }
            return false;
        }

        int cutToLimit(int rows) {
            return most == NONE ? rows : Math.min(rows, most);
        }
    }

    /** The rows that are kept; they outlive a run that is refused. */
    private static final class Answer {
        int rows;
        private int items;
        final Values cells = new Values(MOST_KEPT * MOST_ITEMS);

        Answer() {
        }

        boolean has(int row, int item) {
            return row >= 0 && row < rows && item >= 0 && item < items;
        }

        int placeOf(int row, int item) {
            return row * MOST_ITEMS + item;
        }

        void keep(Room room, int many, int width) {
            rows = Math.min(many, MOST_KEPT);
            items = width;
            for (int row = 0; row < rows; row++) {
                for (int item = 0; item < width; item++) {
                    cells.copy(placeOf(row, item), room.cells, Room.placeOf(room.ranks[row], item));
                }
            }
        }
    }

    /**
     * Which nodes are worked out for some roots, in the order in which they were made: what a node
     * needs was made before it, so that a loop does and a deep expression needs no recursion.
     * A plan ends at aggregates, whose parts are worked out once for each combination.
     */
    private static final class Plan {
        private final boolean[] needed = new boolean[MOST_NODES];
        final int[] steps = new int[MOST_NODES];
        int many;

        Plan() {
        }

        void begin() {
            for (int i = 0; i < MOST_NODES; i++) {
                needed[i] = false;
            }
        }

        void need(int node) {
            if (node >= 0 && node < MOST_NODES) {
                needed[node] = true;
            }
        }

        void complete(Nodes nodes) {
            for (int i = nodes.many - 1; i >= 0; i--) {
                if (needed[i] && !nodes.isAggregate(i)) {
                    need(nodes.left[i]);
                    need(nodes.right[i]);
                }
            }
            many = 0;
            for (int i = 0; i < nodes.many; i++) {
                if (needed[i]) {
                    steps[many] = i;
                    many++;
                }
            }
        }
    }

    /** Works nodes out for one combination of rows at a time. */
    private static final class Evaluator {
        private final Tables tables;
        private final Nodes nodes;
        private final Values values;
        private final int[] rowOf = new int[MOST_TABLES];

        Evaluator(Tables tables, Nodes nodes) {
            this.tables = tables;
            this.nodes = nodes;
            this.values = nodes.values;
        }

        void goTo(int combination) {
            rowOf[0] = Room.rowIn(combination, 0);
            rowOf[1] = Room.rowIn(combination, 1);
            rowOf[2] = Room.rowIn(combination, 2);
        }

        /** Passes over constants, which have their values from the start, and aggregates, which are fed theirs. */
        void workOut(Plan plan) {
            for (int i = 0; i < plan.many; i++) {
                int node = plan.steps[i];
                int kind = nodes.kinds[node];
                if (kind == COLUMN) {
                    fetch(node, nodes.tableOf[node], nodes.columnOf[node]);
                } else if (kind == MINUS) {
                    negate(node, nodes.left[node]);
                } else if (kind >= PLUS && kind <= AT_LEAST) {
                    workOutOfTwo(kind, node, nodes.left[node], nodes.right[node]);
                } else if (kind == IS_NULL || kind == IS_NOT_NULL) {
                    values.setTruth(node, values.isNull(nodes.left[node]) == (kind == IS_NULL));
                } else if (kind == NOT) {
                    turnOver(node, nodes.left[node]);
                } else if (kind == AND || kind == OR) {
                    decide(node, nodes.left[node], nodes.right[node], kind == OR);
                }
            }
        }

        private void fetch(int node, int table, int column) {
            values.copy(node, tables.cells, tables.placeOf(table, rowOf[table], column));
        }

        private void negate(int node, int a) {
            if (values.isNull(a)) {
                values.setNull(node);
            } else {
                values.setNumber(node, -values.numberOf(a));
            }
        }

        private void workOutOfTwo(int kind, int node, int a, int b) {
            if (values.isNull(a) || values.isNull(b)) {
                values.setNull(node);
            } else if (kind < JOINED) {
                reckon(kind, node, values.numberOf(a), values.numberOf(b));
            } else if (kind == JOINED) {
                values.copy(node, values, a);
                values.appendText(node, b);
            } else {
                values.setTruth(node, holds(kind, values.compare(a, b)));
            }
        }

        private void reckon(int kind, int node, long a, long b) {
            if (kind == PLUS) {
                values.setNumber(node, a + b);
            } else if (kind == LESS_BY) {
                values.setNumber(node, a - b);
            } else if (kind == TIMES) {
                values.setNumber(node, a * b);
            } else if (b == 0) {
                values.setNull(node);
            } else {
                values.setNumber(node, kind == QUOTIENT ? a / b : a % b);
            }
        }

        private static boolean holds(int kind, int comparison) {
            switch (kind) {
                case EQUAL:
                    return comparison == 0;
                case UNEQUAL:
                    return comparison != 0;
                case BELOW:
                    return comparison < 0;
                case AT_MOST:
                    return comparison <= 0;
                case ABOVE:
                    return comparison > 0;
                default:
                    return comparison >= 0;
            }
        }

        private void turnOver(int node, int a) {
            if (values.isNull(a)) {
                values.setNull(node);
            } else {
                values.setTruth(node, values.isTruth(a, false));
            }
        }

        /** One part that has the deciding truth (true of or, false of and) decides, even beside a NULL. */
        private void decide(int node, int a, int b, boolean deciding) {
            if (values.isTruth(a, deciding) || values.isTruth(b, deciding)) {
                values.setTruth(node, deciding);
            } else if (values.isNull(a) || values.isNull(b)) {
                values.setNull(node);
            } else {
                values.setTruth(node, !deciding);
            }
        }

        void startAggregate(int node) {
            int kind = nodes.kinds[node];
            if (kind == ROWS || kind == PRESENT) {
                values.setNumber(node, 0);
            } else {
                values.setNull(node);
            }
        }

        void feedAggregate(int node) {
            int kind = nodes.kinds[node];
            if (kind == ROWS) {
                values.setNumber(node, values.numberOf(node) + 1);
                return;
            }
            int a = nodes.left[node];
            if (values.isNull(a)) {
                return;
            }
            if (kind == PRESENT) {
                values.setNumber(node, values.numberOf(node) + 1);
            } else if (values.isNull(node)) {
                values.copy(node, values, a);
            } else if (kind == SUM) {
                values.setNumber(node, values.numberOf(node) + values.numberOf(a));
            } else if (isBetter(kind, values.compare(a, node))) {
                values.copy(node, values, a);
            }
        }

        private static boolean isBetter(int kind, int comparison) {
            return kind == LEAST ? comparison < 0 : comparison > 0;
        }
    }

    /** What a run works in; made anew only when a run needs a larger one. */
    private static final class Room {
        final int capacity;
        final int[] combinations;
        final int[] nextInRow;
        final int[] firstOfRow;
        final int[] lastOfRow;
        final int[] ranks;
        final int[] spareRanks;
        final int[] bucketHeads;
        final int[] nextInBucket;
        final Values cells;

        Room(int capacity) {
            this.capacity = capacity;
            combinations = new int[capacity];
            nextInRow = new int[capacity];
            firstOfRow = new int[capacity];
            lastOfRow = new int[capacity];
            ranks = new int[capacity];
            spareRanks = new int[capacity];
            bucketHeads = new int[capacity];
            nextInBucket = new int[capacity];
            cells = new Values(capacity * MOST_ITEMS);
        }

        static int placeOf(int row, int item) {
            return row * MOST_ITEMS + item;
        }

        static int combine(int row0, int row1, int row2) {
            return (row0 * MOST_ROWS + row1) * MOST_ROWS + row2;
        }

        static int rowIn(int combination, int table) {
            if (table == 0) {
                return combination / (MOST_ROWS * MOST_ROWS);
            }
            return (table == 1 ? combination / MOST_ROWS : combination) % MOST_ROWS;
        }

        void emptyBuckets() {
            Arrays.fill(bucketHeads, NONE);
        }

        int bucketOf(long hash) {
            return (int) Math.floorMod(hash, (long) capacity);
        }

        void putInBucket(int row, int bucket) {
            nextInBucket[row] = bucketHeads[bucket];
            bucketHeads[bucket] = row;
        }

        void startRow(int row, int combinationIndex) {
            firstOfRow[row] = combinationIndex;
            lastOfRow[row] = combinationIndex;
            if (combinationIndex != NONE) {
                nextInRow[combinationIndex] = NONE;
            }
        }

        void extendRow(int row, int combinationIndex) {
            nextInRow[combinationIndex] = NONE;
            nextInRow[lastOfRow[row]] = combinationIndex;
            lastOfRow[row] = combinationIndex;
        }
    }

    private static final class Runner {
        private static final int FIRST_CAPACITY = 16;

        private final Tables tables;
        private final Nodes nodes;
        private final Query query;
        private final Evaluator evaluator;
        private final Plan conditionPlan = new Plan();
        private final Plan partPlan = new Plan();
        private final Plan itemPlan = new Plan();
        private final int[] aggregates = new int[MOST_NODES];
        private int aggregateCount;
        Room room;

        Runner(Tables tables, Nodes nodes, Query query) {
            this.tables = tables;
            this.nodes = nodes;
            this.query = query;
            evaluator = new Evaluator(tables, nodes);
            room = new Room(FIRST_CAPACITY);
        }

        void plan() {
            planItems();
            conditionPlan.begin();
            conditionPlan.need(query.condition);
            conditionPlan.complete(nodes);
        }

        private void planItems() {
            itemPlan.begin();
            for (int i = 0; i < query.items; i++) {
                itemPlan.need(query.itemNodes[i]);
            }
            itemPlan.complete(nodes);
            partPlan.begin();
            aggregateCount = 0;
            for (int i = 0; i < itemPlan.many; i++) {
                int node = itemPlan.steps[i];
                if (nodes.isAggregate(node)) {
                    aggregates[aggregateCount] = node;
                    aggregateCount++;
                    partPlan.need(nodes.left[node]);
                }
            }
            partPlan.complete(nodes);
        }

        private boolean isGrouped() {
            return query.groups > 0 || aggregateCount > 0;
        }

        boolean hasLooseColumn() {
            if (!isGrouped()) {
                return false;
            }
            for (int i = 0; i < itemPlan.many; i++) {
                int node = itemPlan.steps[i];
                if (nodes.kinds[node] == COLUMN
                        && !query.groupsBy(nodes.tableOf[node], nodes.columnOf[node])) {
                    return true;
                }
            }
            return false;
        }

        /** Doubling keeps all the rooms together small when the tables grow between runs. */
        private void makeRoomFor(int many) {
            if (many > room.capacity) {
                room = new Room(Math.max(many, Math.min(MOST_COUNTING, 2 * room.capacity)));
            }
        }

        /** How many combinations count; one more than may count stands for all above. */
        int gather() {
            makeRoomFor(Math.min(tables.product(), MOST_COUNTING));
            int found = 0;
            for (int row0 = 0; row0 < tables.choicesIn(0); row0++) {
                for (int row1 = 0; row1 < tables.choicesIn(1); row1++) {
                    for (int row2 = 0; row2 < tables.choicesIn(2); row2++) {
                        int combination = Room.combine(row0, row1, row2);
                        if (!meetsCondition(combination)) {
                            continue;
                        }
                        if (found >= room.capacity) {
                            return MOST_COUNTING + 1;
                        }
                        room.combinations[found] = combination;
                        found++;
                    }
                }
            }
            return found;
        }

        private boolean meetsCondition(int combination) {
            if (query.condition == NONE) {
                return true;
            }
            evaluator.goTo(combination);
            evaluator.workOut(conditionPlan);
            return nodes.values.isTruth(query.condition, true);
        }

        int makeRows(int counting) {
            if (!isGrouped()) {
                return makeRowForEach(counting);
            }
            return query.groups == 0 ? makeOneRow(counting) : makeRowForEachGroup(counting);
        }

        private int makeRowForEach(int counting) {
            for (int i = 0; i < counting; i++) {
                room.startRow(i, i);
            }
            return counting;
        }

        private int makeOneRow(int counting) {
            room.startRow(0, counting == 0 ? NONE : 0);
            for (int i = 1; i < counting; i++) {
                room.extendRow(0, i);
            }
            return 1;
        }

        private int makeRowForEachGroup(int counting) {
            room.emptyBuckets();
            int rows = 0;
            for (int i = 0; i < counting; i++) {
                int bucket = room.bucketOf(hashOfGroup(i));
                int row = findGroup(i, bucket);
                if (row == NONE) {
                    room.startRow(rows, i);
                    room.putInBucket(rows, bucket);
                    rows++;
                } else {
                    room.extendRow(row, i);
                }
            }
            return rows;
        }

        private int findGroup(int combinationIndex, int bucket) {
            int row = room.bucketHeads[bucket];
            for (int i = 0; i < room.capacity && row != NONE; i++) {
                if (areOfOneGroup(room.firstOfRow[row], combinationIndex)) {
                    return row;
                }
                row = room.nextInBucket[row];
            }
            return NONE;
        }

        private boolean areOfOneGroup(int x, int y) {
            for (int i = 0; i < query.groups; i++) {
                if (!tables.cells.areLike(groupPlace(x, i), groupPlace(y, i))) {
                    return false;
                }
            }
            return true;
        }

        private long hashOfGroup(int combinationIndex) {
            long hash = 0;
            for (int i = 0; i < query.groups; i++) {
                hash = tables.cells.hashOnto(hash, groupPlace(combinationIndex, i));
            }
            return hash;
        }

        private int groupPlace(int combinationIndex, int group) {
            int table = query.groupTables[group];
            int row = Room.rowIn(room.combinations[combinationIndex], table);
            return tables.placeOf(table, row, query.groupColumns[group]);
        }

        void workOutRow(int row) {
            int first = room.firstOfRow[row];
            if (aggregateCount > 0) {
                workOutAggregates(first);
            }
            // Without a first combination no item has a column outside an aggregate.
            if (first != NONE) {
                evaluator.goTo(room.combinations[first]);
            }
            evaluator.workOut(itemPlan);
            for (int i = 0; i < query.items; i++) {
                room.cells.copy(Room.placeOf(row, i), nodes.values, query.itemNodes[i]);
            }
        }

        private void workOutAggregates(int first) {
            for (int i = 0; i < aggregateCount; i++) {
                evaluator.startAggregate(aggregates[i]);
            }
            int at = first;
            for (int i = 0; i < room.capacity && at != NONE; i++) {
                evaluator.goTo(room.combinations[at]);
                evaluator.workOut(partPlan);
                for (int j = 0; j < aggregateCount; j++) {
                    evaluator.feedAggregate(aggregates[j]);
                }
                at = room.nextInRow[at];
            }
        }

        int rankRows(int rows) {
            if (query.onlyDifferent) {
                room.emptyBuckets();
            }
            int left = 0;
            for (int row = 0; row < rows; row++) {
                if (!query.onlyDifferent || isNewRow(row)) {
                    room.ranks[left] = row;
                    left++;
                }
            }
            return left;
        }

        private boolean isNewRow(int row) {
            int bucket = room.bucketOf(hashOfRow(row));
            int other = room.bucketHeads[bucket];
            for (int i = 0; i < room.capacity && other != NONE; i++) {
                if (areLikeRows(row, other)) {
                    return false;
                }
                other = room.nextInBucket[other];
            }
            room.putInBucket(row, bucket);
            return true;
        }

        private long hashOfRow(int row) {
            long hash = 0;
            for (int i = 0; i < query.items; i++) {
                hash = room.cells.hashOnto(hash, Room.placeOf(row, i));
            }
            return hash;
        }

        private boolean areLikeRows(int x, int y) {
            for (int i = 0; i < query.items; i++) {
                if (!room.cells.areLike(Room.placeOf(x, i), Room.placeOf(y, i))) {
                    return false;
                }
            }
            return true;
        }

        /** Merges longer and longer stretches, which leaves like rows as they are. */
        void sortRanks(int many) {
            if (query.orders == 0) {
                return;
            }
            for (int width = 1; width < many; width *= 2) {
                for (int from = 0; from < many; from += 2 * width) {
                    merge(from, Math.min(from + width, many), Math.min(from + 2 * width, many));
                }
                System.arraycopy(room.spareRanks, 0, room.ranks, 0, many);
            }
        }

        private void merge(int from, int middle, int end) {
            int[] ranks = room.ranks;
            int a = from;
            int b = middle;
            for (int to = from; to < end; to++) {
                boolean takeFirst = b >= end || (a < middle && compareRows(ranks[a], ranks[b]) <= 0);
                if (takeFirst) {
                    room.spareRanks[to] = ranks[a];
                    a++;
                } else {
                    room.spareRanks[to] = ranks[b];
                    b++;
                }
            }
        }

        private int compareRows(int x, int y) {
            for (int i = 0; i < query.orders; i++) {
                int item = query.orderItems[i];
                int comparison = room.cells.compareNullsLast(Room.placeOf(x, item), Room.placeOf(y, item));
                if (comparison != 0) {
                    return query.orderFalls[i] ? -comparison : comparison;
                }
            }
            return 0;
        }
    }
}
