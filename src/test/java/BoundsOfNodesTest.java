/** The sentences of promises 9 to 12 that name a boundary case, a method each. */
public final class BoundsOfNodesTest {
    private static final Check check = new Check("BoundsOfNodesTest");
    private static final Object[] VALUES = {null, 1L, "a", true};
    private static final String SINGLE = " 6 7 8 9 10 23 24 25 ";

    public static void main(String[] args) {
        columnCounts();
        columnOfNoTable();
        columnOutsideTheTable();
        columnOfEachPlace();
        columnAt200();
        constantOfEachKind();
        constantEdges();
        constantOfCellZero();
        constantStays();
        constantAt200();
        nodeOfNoKind();
        nodeOfEachKind();
        nodeWithoutA();
        nodeWithoutB();
        nodeIgnoresB();
        nodeFiveIgnoresBoth();
        nodeOfTakenParts();
        nodeTakesPartsAlone();
        nodeOfSameParts();
        nodeOfTypesThatDoNotFit();
        nodeOfTypeZero();
        nodeOfLikeTypes();
        nodeOfAnAggregateOfOne();
        nodeAt200();
        nodeLast();
        nodesAllInOne();
        nodesAllInACondition();
        typeOfNone();
        typeOfEachLeaf();
        typeOfEachKind();
        typeOfWhatHasAnAggregate();
        check.done();
    }

    private static int constant(QueryRunner q, int type) {
        return Make.constant(q, VALUES[type]);
    }

    private static boolean isSingle(int kind) {
        return SINGLE.contains(" " + kind + " ");
    }

    /** The type that the parts of a kind may have (8 and 9, 17 to 22 and those of any have more). */
    private static int partType(int kind) {
        return kind == 16 ? 2 : kind >= 25 ? 3 : 1;
    }

    private static void columnCounts() {
        check.sentence("9: which node");
        QueryRunner q = Make.sized(0, 0);
        check.same("the first", q.column(0, 0), 0);
        check.same("the same column again", q.column(0, 0), 1);
        check.same("another", q.column(1, 0), 2);
        check.same("a refused one", q.column(2, 0), -1);
        check.same("the next", q.column(1, 0), 3);
    }

    private static void columnOfNoTable() {
        check.sentence("9: refused, if there is no such column, for want of a table");
        for (int tables = 0; tables <= 3; tables++) {
            QueryRunner q = Make.sized(new int[tables]);
            for (int none : new int[] {-1, tables, 3, 4, Integer.MAX_VALUE, Integer.MIN_VALUE}) {
                check.same("column(" + none + ", 0) of " + tables, q.column(none, 0), -1);
            }
            check.same("no node is there", q.type(0), -1);
        }
    }

    private static void columnOutsideTheTable() {
        check.sentence("9: refused, if there is no such column");
        for (int many = 1; many <= 8; many++) {
            QueryRunner q = new QueryRunner();
            q.table(8, 11111111);
            q.table(many, 11111111);
            for (int none : new int[] {-1, many, 8, Integer.MAX_VALUE, Integer.MIN_VALUE}) {
                check.same("column(1, " + none + ") of " + many, q.column(1, none), -1);
            }
            check.same("the last", q.column(1, many - 1), 0);
        }
    }

    private static void columnOfEachPlace() {
        check.sentence("9: A node of a column, each of each table");
        QueryRunner q = new QueryRunner();
        int[] types = {12312312, 11111111, 33221321};
        Object[][] rows = {
            {"a", 1, true, "b", 2, false, "c", 3}, {1, 2, 3, 4, 5, 6, 7, 8}, {9, "d", true, 10, "e", "f", false, true}
        };
        for (int table = 0; table < 3; table++) {
            q.table(8, types[table]);
            check.same("a row of table " + table, Make.row(q, table, rows[table]), 1);
        }
        for (int i = 0; i < 8; i++) {
            q.item(q.column(i % 3, i));
        }
        check.answers("across", q, 8, "a,2,true,b,5,f,c,8");
    }

    private static void columnAt200() {
        check.sentence("9: refused, if there are 200 nodes");
        QueryRunner q = Make.sized(0);
        for (int i = 0; i < 200; i++) {
            check.same("node", q.column(0, 0), i);
        }
        check.same("one more", q.column(0, 0), -1);
        check.same("no node 200", q.type(200), -1);
    }

    private static void constantOfEachKind() {
        check.sentence("10: A node with the value of cell 0: which");
        QueryRunner q = new QueryRunner();
        for (int type = 0; type <= 3; type++) {
            check.same("a constant", constant(q, type), type);
            check.same("its type", q.type(type), type);
        }
    }

    private static void constantEdges() {
        check.sentence("10: the value of cell 0, the least and the greatest");
        String whole = "\u00ff123456\u00007890abcdefghijklmnopqr\u0000";
        Object[] values = {Long.MIN_VALUE, Long.MAX_VALUE, 0L, "", whole, "\0", false, null};
        StringBuilder due = new StringBuilder();
        QueryRunner q = Make.sized(1);
        for (Object value : values) {
            q.item(Make.constant(q, value));
            due.append(due.length() == 0 ? "" : ",").append(value);
        }
        check.answers("as they were", q, 8, due.toString());
    }

    private static void constantOfCellZero() {
        check.sentence("10: cell 0, no other");
        QueryRunner q = new QueryRunner();
        for (int i = 1; i < 8; i++) {
            q.cell(i, 7);
        }
        check.same("NULL among numbers", q.type(q.constant()), 0);
        q.clear();
        q.truth(0, true);
        check.same("a truth among NULLs", q.type(q.constant()), 3);
    }

    private static void constantStays() {
        check.sentence("10: the value that cell 0 had then");
        QueryRunner q = Make.sized(1);
        q.clear();
        q.text(0, 'a', 1);
        q.item(q.constant());
        q.text(0, 'b', 1);
        q.item(q.constant());
        q.cell(0, 3);
        q.item(q.constant());
        q.clear();
        check.answers("all three", q, 3, "a,ab,3");
        check.answers("and again", q, 3, "a,ab,3");
    }

    private static void constantAt200() {
        check.sentence("10: refused, if there are 200");
        QueryRunner q = new QueryRunner();
        for (int i = 0; i < 200; i++) {
            check.same("node", q.constant(), i);
        }
        check.same("one more", q.constant(), -1);
        check.same("and again", q.constant(), -1);
        check.same("no node 200", q.type(200), -1);
    }

    private static void nodeOfNoKind() {
        check.sentence("11: refused, if there is no such kind");
        for (int kind : new int[] {4, 3, 2, 1, 0, -1, -5, 28, 29, 100, Integer.MAX_VALUE, Integer.MIN_VALUE}) {
            QueryRunner q = new QueryRunner();
            constant(q, 0);
            constant(q, 0);
            check.same("kind " + kind, q.node(kind, 0, 1), -1);
            check.same("no node", q.type(2), -1);
            check.same("its parts are free", q.node(26, 0, 1), 2);
        }
    }

    private static void nodeOfEachKind() {
        check.sentence("11: A node of a kind 5 .. 27: which");
        for (int kind = 5; kind <= 27; kind++) {
            QueryRunner q = new QueryRunner();
            constant(q, partType(kind));
            constant(q, partType(kind));
            check.same("kind " + kind, q.node(kind, 0, 1), 2);
        }
    }

    private static void nodeWithoutA() {
        check.sentence("11: refused, if a is no node");
        for (int kind = 6; kind <= 27; kind++) {
            QueryRunner q = new QueryRunner();
            constant(q, 0);
            constant(q, 0);
            for (int none : new int[] {-1, 2, 3, 199, 200, Integer.MAX_VALUE, Integer.MIN_VALUE}) {
                check.same("node(" + kind + ", " + none + ", 1)", q.node(kind, none, 1), -1);
            }
            check.same("b is free", q.node(kind, 1, 0), 2);
        }
    }

    private static void nodeWithoutB() {
        check.sentence("11: refused, if b is no node");
        for (int kind = 11; kind <= 27; kind++) {
            if (isSingle(kind)) {
                continue;
            }
            QueryRunner q = new QueryRunner();
            constant(q, 0);
            constant(q, 0);
            for (int none : new int[] {-1, 2, 3, 199, 200, Integer.MAX_VALUE, Integer.MIN_VALUE}) {
                check.same("node(" + kind + ", 0, " + none + ")", q.node(kind, 0, none), -1);
            }
            check.same("a is free", q.node(kind, 0, 1), 2);
        }
    }

    /** No node, a itself, one's part, and one of another type: b may be any of them. */
    private static void nodeIgnoresB() {
        check.sentence("11: b is not looked at where there is none");
        for (int kind = 6; kind <= 25; kind++) {
            if (!isSingle(kind)) {
                continue;
            }
            for (int b : new int[] {-1, 0, 1, 2, 3, 200, Integer.MAX_VALUE, Integer.MIN_VALUE}) {
                QueryRunner q = new QueryRunner();
                constant(q, partType(kind));
                constant(q, 2);
                q.node(23, 1, 0);
                q.node(5, 0, 0);
                check.same("node(" + kind + ", 0, " + b + ")", q.node(kind, 0, b), 4);
                check.same("its type", q.type(4), kind < 10 ? 11 : kind == 10 ? 1 : 3);
                check.same("b is not taken", q.node(24, 2, 0), 5);
            }
        }
    }

    private static void nodeFiveIgnoresBoth() {
        check.sentence("11: for 5 a, too, is not looked at");
        for (int part : new int[] {-1, 0, 1, 2, 200, Integer.MAX_VALUE, Integer.MIN_VALUE}) {
            QueryRunner q = new QueryRunner();
            constant(q, 2);
            q.node(6, 0, 0);
            check.same("node(5, " + part + ", " + part + ")", q.node(5, part, part), 2);
            check.same("nothing is taken", q.node(23, 1, 0), 3);
        }
        check.same("of a new object", new QueryRunner().node(5, 0, 0), 0);
    }

    /** Parts that are the a of one, the a and the b of two, tried as a and as b. */
    private static void nodeOfTakenParts() {
        check.sentence("11: refused, if a or b is one's already");
        for (int kind = 6; kind <= 27; kind++) {
            QueryRunner q = new QueryRunner();
            for (int i = 0; i < 5; i++) {
                constant(q, 0);
            }
            q.node(6, 0, 0);
            q.node(11, 1, 2);
            for (int taken = 0; taken < 3; taken++) {
                check.same("a of " + kind, q.node(kind, taken, 3), -1);
                if (kind > 10 && !isSingle(kind)) {
                    check.same("b of " + kind, q.node(kind, 3, taken), -1);
                    check.same("both of " + kind, q.node(kind, taken, taken), -1);
                }
            }
            check.same("3 and 4 are free", q.node(kind, 3, 4), 7);
            check.same("not any more", q.node(kind, 3, 4), -1);
        }
    }

    private static void nodeTakesPartsAlone() {
        check.sentence("11: one's already: as a part of a node, not as a condition, item or group");
        QueryRunner q = new QueryRunner();
        q.table(1, 3);
        int column = q.column(0, 0);
        q.where(column);
        q.item(column);
        q.group(column);
        check.same("a part still", q.node(25, column, 0), 1);
        check.yes("a condition still", q.where(column));
        check.same("an item still", q.item(column), 1);
        check.yes("a group still", q.group(column));
        check.same("no part any more", q.node(25, column, 0), -1);
    }

    private static void nodeOfSameParts() {
        check.sentence("11: refused, if they are the same");
        for (int kind = 11; kind <= 27; kind++) {
            if (isSingle(kind)) {
                continue;
            }
            QueryRunner q = new QueryRunner();
            constant(q, partType(kind));
            constant(q, partType(kind));
            check.same("node(" + kind + ", 0, 0)", q.node(kind, 0, 0), -1);
            check.same("node(" + kind + ", 1, 1)", q.node(kind, 1, 1), -1);
            check.same("both are free", q.node(kind, 0, 1), 2);
        }
    }

    /** The types beside the fitting one, on each side; those of any and of like types have their own tests. */
    private static void nodeOfTypesThatDoNotFit() {
        check.sentence("11: refused, if a type does not fit");
        for (int kind : new int[] {7, 8, 9, 10, 11, 12, 13, 14, 15, 16, 25, 26, 27}) {
            int good = partType(kind);
            for (int type = 1; type <= 3; type++) {
                boolean extreme = (kind == 8 || kind == 9) && type == 2;
                if (type == good || extreme) {
                    continue;
                }
                QueryRunner q = new QueryRunner();
                constant(q, good);
                constant(q, type);
                constant(q, 0);
                check.same("a of " + kind + " is a " + type, q.node(kind, 1, 0), -1);
                check.same("beside NULL", q.node(kind, 1, 2), -1);
                if (!isSingle(kind)) {
                    check.same("b of " + kind + " is a " + type, q.node(kind, 0, 1), -1);
                    check.same("behind NULL", q.node(kind, 2, 1), -1);
                }
                check.same("none is taken", q.node(kind, 0, 2), 3);
            }
        }
    }

    private static void nodeOfTypeZero() {
        check.sentence("Terms: 0 fits always");
        for (int kind = 6; kind <= 27; kind++) {
            for (int type = 0; type <= 3; type++) {
                if (type != 0 && type != partType(kind)) {
                    continue;
                }
                QueryRunner q = new QueryRunner();
                constant(q, 0);
                constant(q, type);
                constant(q, 0);
                check.same("a of " + kind, q.node(kind, 0, 1), 3);
                constant(q, type);
                check.same("b of " + kind, q.node(kind, 4, 2), 5);
            }
        }
    }

    private static void nodeOfLikeTypes() {
        check.sentence("Terms: 17 .. 22, of like types; 6, 23 and 24 of any; 8 and 9 of 1 or 2");
        for (int a = 0; a <= 3; a++) {
            for (int b = 0; b <= 3; b++) {
                for (int kind = 17; kind <= 22; kind++) {
                    QueryRunner q = new QueryRunner();
                    constant(q, a);
                    constant(q, b);
                    boolean like = a == b || a == 0 || b == 0;
                    check.same("kind " + kind + " of " + a + " and " + b, q.node(kind, 0, 1), like ? 2 : -1);
                }
            }
            for (int kind : new int[] {6, 23, 24, 8, 9}) {
                QueryRunner q = new QueryRunner();
                constant(q, a);
                boolean fits = kind == 6 || kind > 9 || a != 3;
                check.same("kind " + kind + " of " + a, q.node(kind, 0, 0), fits ? 1 : -1);
            }
        }
    }

    private static void nodeOfAnAggregateOfOne() {
        check.sentence("11: refused, if a of an aggregate has one");
        for (int kind = 6; kind <= 9; kind++) {
            for (int inner = 5; inner <= 9; inner++) {
                QueryRunner q = new QueryRunner();
                constant(q, 1);
                int aggregate = q.node(inner, 0, 0);
                check.same(kind + " of " + inner, q.node(kind, aggregate, 0), -1);
                int left = q.node(11, aggregate, constant(q, 1));
                check.same(kind + " of " + inner + " on the left", q.node(kind, left, 0), -1);
                int right = q.node(12, constant(q, 1), left);
                check.same(kind + " of " + inner + " on the right", q.node(kind, right, 0), -1);
                int deeper = q.node(10, right, 0);
                check.same(kind + " of " + inner + " further down", q.node(kind, deeper, 0), -1);
                check.same("others may", q.type(q.node(10, deeper, 0)), 11);
            }
        }
    }

    private static void nodeAt200() {
        check.sentence("11: refused, if there are 200");
        QueryRunner q = new QueryRunner();
        for (int i = 0; i < 199; i++) {
            q.constant();
        }
        check.same("the last", q.node(11, 0, 1), 199);
        for (int kind = 5; kind <= 27; kind++) {
            check.same("kind " + kind, q.node(kind, 2, 3), -1);
        }
        check.same("no node 200", q.type(200), -1);
    }

    private static void nodeLast() {
        check.sentence("Terms: NODES are 0 .. 199, in the order in which they were made");
        QueryRunner q = Make.sized(1);
        for (int i = 0; i < 199; i++) {
            Make.cell(q, 0, i);
            q.constant();
        }
        check.same("the last", q.node(11, 197, 198), 199);
        q.item(199);
        q.item(198);
        q.item(0);
        check.answers("their values", q, 3, "395,198,0");
    }

    /** A column, turned over 199 times. */
    private static void nodesAllInOne() {
        check.sentence("Terms: NODES are 0 .. 199, all of them in one item");
        QueryRunner q = Make.sized(2);
        int node = q.column(0, 0);
        for (int i = 1; i < 200; i++) {
            node = q.node(10, node, 0);
        }
        check.same("the last", node, 199);
        q.item(199);
        check.answers("an odd number of times", q, 1, "0|-1");
        q.item(198);
        check.answers("an even number of times", q, 2, "0,0|-1,1");
    }

    private static void nodesAllInACondition() {
        check.sentence("Terms: NODES are 0 .. 199, all of them in a condition");
        QueryRunner q = new QueryRunner();
        q.table(1, 3);
        Make.row(q, 0, true);
        Make.row(q, 0, false);
        Make.row(q, 0);
        int node = q.column(0, 0);
        for (int i = 1; i < 200; i++) {
            node = q.node(25, node, 0);
        }
        check.yes("the last", q.where(199));
        q.item(0);
        check.answers("an odd number of times", q, 1, "false");
    }

    private static void typeOfNone() {
        check.sentence("12: -1 if there is none such");
        QueryRunner q = new QueryRunner();
        for (int nodes = 0; nodes < 3; nodes++) {
            for (int none : new int[] {-1, nodes, 199, 200, Integer.MAX_VALUE, Integer.MIN_VALUE}) {
                check.same("type(" + none + ") of " + nodes, q.type(none), -1);
            }
            q.constant();
        }
    }

    private static void typeOfEachLeaf() {
        check.sentence("12: The type of a node, 0 .. 3");
        QueryRunner q = new QueryRunner();
        q.table(3, 213);
        for (int type = 0; type <= 3; type++) {
            check.same("a constant", q.type(constant(q, type)), type);
        }
        int[] due = {3, 1, 2};
        for (int i = 0; i < 3; i++) {
            check.same("a column", q.type(q.column(0, i)), due[i]);
        }
    }

    private static void typeOfEachKind() {
        check.sentence("Terms: a type (in brackets)");
        for (int kind = 5; kind <= 27; kind++) {
            QueryRunner q = new QueryRunner();
            constant(q, partType(kind));
            constant(q, partType(kind));
            int due = kind <= 9 ? 11 : kind <= 15 ? 1 : kind == 16 ? 2 : 3;
            check.same("kind " + kind, q.type(q.node(kind, 0, 1)), due);
            QueryRunner r = new QueryRunner();
            constant(r, 0);
            constant(r, 0);
            boolean ofA = kind == 8 || kind == 9;
            check.same("kind " + kind + " of NULL", r.type(r.node(kind, 0, 1)), ofA ? 10 : due);
        }
        for (int kind = 8; kind <= 9; kind++) {
            QueryRunner q = new QueryRunner();
            check.same("kind " + kind + " of a text", q.type(q.node(kind, constant(q, 2), 0)), 12);
        }
    }

    private static void typeOfWhatHasAnAggregate() {
        check.sentence("12: + 10 if it has an aggregate");
        QueryRunner q = new QueryRunner();
        int rows = q.node(5, 0, 0);
        check.same("it is one", q.type(rows), 11);
        int left = q.node(17, rows, constant(q, 1));
        check.same("on the left", q.type(left), 13);
        int right = q.node(26, constant(q, 3), left);
        check.same("on the right", q.type(right), 13);
        int alone = q.node(23, right, 0);
        check.same("further down", q.type(alone), 13);
        int text = q.node(16, q.node(9, constant(q, 2), 0), q.node(8, constant(q, 2), 0));
        check.same("on both sides", q.type(text), 12);
        check.same("not beside it", q.type(constant(q, 2)), 2);
    }
}
