/** What the kinds of nodes work out to, over constants in one row and over the rows of a table. */
public final class KindsTest {
    private static final Check check = new Check("KindsTest");
    private static final long MIN = Long.MIN_VALUE;
    private static final long MAX = Long.MAX_VALUE;

    public static void main(String[] args) {
        reckoning();
        joining();
        comparing();
        askingForNull();
        deciding();
        aggregates();
        aggregatesOfNothing();
        aggregatesInExpressions();
        check.done();
    }

    /** Once over constants, and once over columns, which take another way to their values. */
    private static void works(int kind, Object a, Object b, Object due) {
        QueryRunner q = new QueryRunner();
        q.table(1, 1);
        q.add(0);
        int left = Make.constant(q, a);
        q.item(q.node(kind, left, Make.constant(q, b)));
        q.run();
        tell(kind, a, b, Make.answer(q, 0, 0), due);
        QueryRunner r = new QueryRunner();
        r.table(2, typeOf(a) + 10 * typeOf(b));
        Make.row(r, 0, a, b);
        left = r.column(0, 0);
        int node = r.node(kind, left, r.column(0, 1));
        if (node >= 0) {
            r.item(node);
            r.run();
            tell(kind, a, b, Make.answer(r, 0, 0), due);
        }
    }

    private static int typeOf(Object value) {
        return value instanceof String ? 2 : value instanceof Boolean ? 3 : 1;
    }

    private static void tell(int kind, Object a, Object b, Object got, Object due) {
        Object wanted = due instanceof Integer ? (Object) ((Integer) due).longValue() : due;
        String what = "kind " + kind + " of " + a + " and " + b + " is " + got + ", due is " + wanted;
        check.yes(what, wanted == null ? got == null : wanted.equals(got));
    }

    private static void reckoning() {
        works(10, 5, null, -5);
        works(10, MIN, null, MIN);
        works(10, null, null, null);
        works(11, 2, 3, 5);
        works(11, MAX, 1, MIN);
        works(12, 2, 3, -1);
        works(12, MIN, 1, MAX);
        works(13, -4, 3, -12);
        works(13, MAX, 2, -2);
        works(14, 7, 2, 3);
        works(14, -7, 2, -3);
        works(14, 7, -2, -3);
        works(14, -7, -2, 3);
        works(14, MIN, -1, MIN);
        works(14, 7, 0, null);
        works(15, 7, 3, 1);
        works(15, -7, 3, -1);
        works(15, 7, -3, 1);
        works(15, MIN, -1, 0);
        works(15, 7, 0, null);
        for (int kind = 11; kind <= 15; kind++) {
            works(kind, null, 3, null);
            works(kind, 3, null, null);
            works(kind, null, null, null);
        }
    }

    private static void joining() {
        works(16, "ab", "cd", "abcd");
        works(16, "", "", "");
        works(16, "a\0", "\u00ff", "a\0\u00ff");
        works(16, "", "x", "x");
        String sixteen = "0123456789abcdef";
        works(16, sixteen, "ABCDEFGHIJKLMNO", sixteen + "ABCDEFGHIJKLMNO");
        works(16, sixteen, "ABCDEFGHIJKLMNOP", sixteen + "ABCDEFGHIJKLMNO");
        works(16, sixteen + "ABCDEFGHIJKLMNO", sixteen, sixteen + "ABCDEFGHIJKLMNO");
        works(16, null, "a", null);
        works(16, "a", null, null);
    }

    private static void ordered(Object less, Object more) {
        boolean[] due = {false, true, true, true, false, false};
        boolean[] other = {false, true, false, false, true, true};
        boolean[] like = {true, false, false, true, false, true};
        for (int kind = 17; kind <= 22; kind++) {
            works(kind, less, more, due[kind - 17]);
            works(kind, more, less, other[kind - 17]);
            works(kind, less, less, like[kind - 17]);
            works(kind, less, null, null);
            works(kind, null, more, null);
        }
    }

    private static void comparing() {
        ordered(1L, 2L);
        ordered(-1L, 1L);
        ordered(MIN, MAX);
        ordered(false, true);
        ordered("a", "b");
        ordered("", "a");
        ordered("", "\0");
        ordered("a", "a\0");
        ordered("ab", "b");
        ordered("\u007f", "\u0080");
        ordered("a", "\u00ff");
        ordered("abcdefghijklmno", "abcdefghijklmnp");
        ordered("0123456789012345678901234567890", "0123456789012345678901234567891");
        ordered("012345678901234567890123456789", "012345678901234567890123456789\0");
        ordered("01234567", "012345670");
        works(17, null, null, null);
    }

    private static void askingForNull() {
        Object[] values = {0L, "", false, null};
        for (Object value : values) {
            works(23, value, null, value == null);
            works(24, value, null, value != null);
        }
    }

    private static void deciding() {
        works(25, true, null, false);
        works(25, false, null, true);
        works(25, null, null, null);
        Boolean[] truths = {false, true, null};
        Boolean[][] both = {{false, false, false}, {false, true, null}, {false, null, null}};
        Boolean[][] either = {{false, true, null}, {true, true, true}, {null, true, null}};
        for (int i = 0; i < 3; i++) {
            for (int j = 0; j < 3; j++) {
                works(26, truths[i], truths[j], both[i][j]);
                works(27, truths[i], truths[j], either[i][j]);
            }
        }
    }

    private static QueryRunner filled() {
        QueryRunner q = new QueryRunner();
        q.table(3, 321);
        Make.row(q, 0, 4, "b", true);
        Make.row(q, 0, null, "", null);
        Make.row(q, 0, -9, null, false);
        Make.row(q, 0, 2, "b\0", null);
        return q;
    }

    private static void aggregate(QueryRunner q, int kind, int column) {
        q.item(q.node(kind, q.column(0, column), 0));
    }

    private static void aggregates() {
        QueryRunner q = filled();
        q.item(q.node(5, 0, 0));
        aggregate(q, 6, 0);
        aggregate(q, 6, 1);
        aggregate(q, 6, 2);
        aggregate(q, 7, 0);
        aggregate(q, 8, 0);
        aggregate(q, 9, 0);
        check.answers("numbers", q, 7, "4,3,3,2,-3,-9,4");
        QueryRunner r = filled();
        aggregate(r, 8, 1);
        aggregate(r, 9, 1);
        check.answers("texts", r, 2, ",b\0");
        QueryRunner s = new QueryRunner();
        s.table(1, 1);
        Make.row(s, 0, MAX);
        Make.row(s, 0, 2);
        aggregate(s, 7, 0);
        check.answers("a sum that wraps", s, 1, String.valueOf(MAX + 2));
    }

    private static void aggregatesOfNothing() {
        QueryRunner q = new QueryRunner();
        q.table(1, 1);
        q.item(q.node(5, 0, 0));
        for (int kind = 6; kind <= 9; kind++) {
            aggregate(q, kind, 0);
        }
        q.item(Make.constant(q, "x"));
        check.answers("no rows", q, 6, "0,0,null,null,null,x");
        Make.row(q, 0);
        check.answers("a row of NULL", q, 6, "1,0,null,null,null,x");
        Make.row(q, 0, 6);
        check.answers("and one that is not", q, 6, "2,1,6,6,6,x");
    }

    /** In each group: the sum of (number * 10), plus how many rows, and the number of the group plus 1. */
    private static void aggregatesInExpressions() {
        QueryRunner q = new QueryRunner();
        q.table(2, 11);
        Make.row(q, 0, 1, 5);
        Make.row(q, 0, 2, 7);
        Make.row(q, 0, 1, 6);
        Make.row(q, 0, 2, null);
        q.group(q.column(0, 0));
        int ten = Make.constant(q, 10);
        int sum = q.node(7, q.node(13, q.column(0, 1), ten), 0);
        q.item(q.node(11, sum, q.node(5, 0, 0)));
        int one = Make.constant(q, 1);
        q.item(q.node(11, q.column(0, 0), one));
        check.answers("expressions of aggregates", q, 2, "112,2|72,3");
        int inside = q.column(0, 0);
        q.item(q.node(9, inside, 0));
        q.item(inside);
        check.answers("a node in an aggregate that is an item as well", q, 4, "112,2,1,1|72,3,2,2");
        q.item(sum);
        check.answers("an aggregate that is a part of another item", q, 5, "112,2,1,1,110|72,3,2,2,70");
    }
}
