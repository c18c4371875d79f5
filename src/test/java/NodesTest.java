/** Promises 9 to 12: nodes of columns and constants, nodes over others, and types. */
public final class NodesTest {
    private static final Check check = new Check("NodesTest");

    /** For each kind from 5: the types that a may have, and those of b ("" if there is none); "=" is like a. */
    private static final String[][] PARTS = {
        {"", ""}, {"123", ""}, {"1", ""}, {"12", ""}, {"12", ""}, {"1", ""}, {"1", "1"}, {"1", "1"},
        {"1", "1"}, {"1", "1"}, {"1", "1"}, {"2", "2"}, {"123", "="}, {"123", "="}, {"123", "="},
        {"123", "="}, {"123", "="}, {"123", "="}, {"123", ""}, {"123", ""}, {"3", ""}, {"3", "3"}, {"3", "3"}
    };

    public static void main(String[] args) {
        columnNodes();
        constantNodes();
        for (int kind = 5; kind <= 27; kind++) {
            typesOfParts(kind);
            partsThatAreNone(kind);
        }
        kindsThatAreNone();
        partsAreOnes();
        aggregatesInAggregates();
        atMostTwoHundred();
        deepNodes();
        typesTold();
        check.done();
    }

    private static void columnNodes() {
        QueryRunner q = new QueryRunner();
        q.table(2, 31);
        q.table(1, 2);
        check.same("9: a column", q.column(0, 0), 0);
        check.same("9: the same again", q.column(0, 0), 1);
        check.same("9: of another table", q.column(1, 0), 2);
        check.same("9: type 1", q.type(0), 1);
        check.same("9: type 2", q.type(2), 2);
        check.same("9: type 3", q.type(q.column(0, 1)), 3);
        int[][] none = {{0, 2}, {0, -1}, {1, 1}, {2, 0}, {-1, 0}, {3, 0}, {Integer.MAX_VALUE, 0}, {0, Integer.MIN_VALUE}};
        for (int[] one : none) {
            check.same("9: column(" + one[0] + ", " + one[1] + ")", q.column(one[0], one[1]), -1);
        }
        check.same("9: refused ones are not there", q.column(0, 1), 4);
    }

    private static void constantNodes() {
        QueryRunner q = new QueryRunner();
        Object[] values = {null, 5L, "text", true};
        for (int i = 0; i < values.length; i++) {
            check.same("10: a constant", Make.constant(q, values[i]), i);
            check.same("10: its type", q.type(i), i);
        }
        q.clear();
        q.cell(1, 8);
        check.same("10: cell 0 alone", q.type(q.constant()), 0);
        q.table(1, 1);
        q.add(0);
        for (int i = 0; i < values.length; i++) {
            q.item(i);
        }
        q.cell(0, 99);
        q.run();
        check.yes("10: the values", Make.answers(q, 1, 4).equals("null,5,text,true"));
    }

    private static int constantOf(QueryRunner q, int type) {
        Object[] values = {null, 1L, "a", true};
        return Make.constant(q, values[type]);
    }

    private static int typeDue(int kind, int a) {
        if (kind == 8 || kind == 9) {
            return 10 + a;
        }
        return kind <= 7 ? 11 : kind <= 15 ? 1 : kind == 16 ? 2 : 3;
    }

    private static boolean fits(String rule, int type) {
        return type == 0 || rule.contains(String.valueOf(type));
    }

    private static void typesOfParts(int kind) {
        String forA = PARTS[kind - 5][0];
        String forB = PARTS[kind - 5][1];
        for (int a = 0; a <= 3; a++) {
            for (int b = 0; b <= 3; b++) {
                QueryRunner q = new QueryRunner();
                int left = constantOf(q, a);
                int right = constantOf(q, b);
                boolean good = (forA.isEmpty() || fits(forA, a)) && (forB.isEmpty()
                    || (forB.equals("=") ? a == 0 || b == 0 || a == b : fits(forB, b)));
                String call = "11: kind " + kind + " of types " + a + " and " + b;
                check.same(call, q.node(kind, left, right), good ? 2 : -1);
                check.same("12: type, " + call, q.type(2), good ? typeDue(kind, a) : -1);
            }
        }
    }

    private static void partsThatAreNone(int kind) {
        QueryRunner q = new QueryRunner();
        int good = constantOf(q, 0);
        int[] none = {-1, 1, 2, 200, Integer.MAX_VALUE, Integer.MIN_VALUE};
        boolean hasA = !PARTS[kind - 5][0].isEmpty();
        boolean hasB = !PARTS[kind - 5][1].isEmpty();
        for (int i = 0; hasA && i < none.length; i++) {
            check.same("11: kind " + kind + " without a", q.node(kind, none[i], good), -1);
        }
        for (int i = 0; hasB && i < none.length; i++) {
            check.same("11: kind " + kind + " without b", q.node(kind, good, none[i]), -1);
        }
        if (!hasB) {
            check.same("11: b of kind " + kind + " is not looked at", q.node(kind, hasA ? good : -7, -9), 1);
        } else {
            check.same("11: both parts of kind " + kind + " the same", q.node(kind, good, good), -1);
            check.same("11: kind " + kind, q.node(kind, good, constantOf(q, 0)), 2);
        }
    }

    private static void kindsThatAreNone() {
        QueryRunner q = new QueryRunner();
        constantOf(q, 0);
        constantOf(q, 0);
        int[] none = {4, 3, 0, -1, 28, 29, Integer.MAX_VALUE, Integer.MIN_VALUE};
        for (int kind : none) {
            check.same("11: kind " + kind, q.node(kind, 0, 1), -1);
        }
        check.same("11: the nodes are free still", q.node(11, 0, 1), 2);
    }

    private static void partsAreOnes() {
        QueryRunner q = new QueryRunner();
        for (int i = 0; i < 6; i++) {
            constantOf(q, 1);
        }
        check.same("11: the first", q.node(11, 0, 1), 6);
        check.same("11: a is one's already", q.node(11, 0, 2), -1);
        check.same("11: b is one's already", q.node(11, 2, 1), -1);
        check.same("11: of an aggregate too", q.node(7, 0, 0), -1);
        check.same("11: a refused call takes nothing", q.node(12, 2, 3), 7);
        check.same("11: refused for its type", q.node(16, 4, 5), -1);
        check.same("11: so both are free", q.node(13, 4, 5), 8);
        check.same("11: nodes over nodes", q.node(11, 6, 7), 9);
        check.same("11: taken by it", q.node(10, 6, 0), -1);
        check.same("11: b where there is none is not taken", q.node(10, 8, 9), 10);
        check.same("11: it is free", q.node(10, 9, 0), 11);
        q.item(10);
        q.where(-1);
        check.same("11: an item can be a part", q.node(10, 10, 0), 12);
        check.same("11: a part can be an item", q.item(0), 1);
    }

    private static void aggregatesInAggregates() {
        QueryRunner q = new QueryRunner();
        q.table(1, 1);
        int rows = q.node(5, 0, 0);
        for (int kind = 6; kind <= 9; kind++) {
            check.same("11: kind " + kind + " of an aggregate", q.node(kind, rows, 0), -1);
        }
        int deep = q.node(11, q.column(0, 0), q.node(10, rows, 0));
        check.same("12: an aggregate further down", q.type(deep), 11);
        for (int kind = 6; kind <= 9; kind++) {
            check.same("11: kind " + kind + " over an aggregate", q.node(kind, deep, 0), -1);
        }
        check.same("11: others may", q.type(q.node(23, deep, 0)), 13);
        int text = q.node(8, constantOf(q, 2), 0);
        check.same("12: the least text", q.type(text), 12);
        check.same("12: an aggregate on the right", q.type(q.node(16, constantOf(q, 2), text)), 12);
    }

    private static void atMostTwoHundred() {
        QueryRunner q = new QueryRunner();
        q.table(1, 1);
        for (int i = 0; i < 200; i++) {
            check.same("10: node " + i, q.constant(), i);
        }
        check.same("9: there are 200", q.column(0, 0), -1);
        check.same("10: there are 200", q.constant(), -1);
        check.same("11: there are 200", q.node(5, 0, 0), -1);
        check.same("12: the last", q.type(199), 0);
        check.same("12: none", q.type(200), -1);
    }

    private static void deepNodes() {
        QueryRunner q = new QueryRunner();
        q.table(1, 1);
        Make.row(q, 0, 7);
        int node = q.column(0, 0);
        while (node < 198) {
            node = q.node(10, node, 0);
        }
        q.item(node);
        q.item(q.node(7, node, 0));
        check.same("19: a column cannot stand beside its sum", q.run(), -3);
        q.group(0);
        check.same("19: but for a group", q.run(), 1);
        check.same("21: turned over 198 times", q.value(0, 0), 7);
        check.same("21: and the sum of that", q.value(0, 1), 7);
    }

    private static void typesTold() {
        QueryRunner q = new QueryRunner();
        constantOf(q, 3);
        int[] none = {-1, 1, 199, 200, Integer.MAX_VALUE, Integer.MIN_VALUE};
        for (int node : none) {
            check.same("12: type(" + node + ")", q.type(node), -1);
        }
        check.same("12: type 3", q.type(0), 3);
        int nothing = constantOf(q, 0);
        check.same("12: the greatest of nothing", q.type(q.node(9, nothing, 0)), 10);
    }
}
