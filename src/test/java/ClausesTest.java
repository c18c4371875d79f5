/** Promises 13 to 18: condition, items, groups, orders, limit and distinct. */
public final class ClausesTest {
    private static final Check check = new Check("ClausesTest");

    public static void main(String[] args) {
        whereChooses();
        whereRefuses();
        itemsAreAdded();
        groupsAreMade();
        groupRefuses();
        ordersRise();
        ordersFall();
        ordersOfEachType();
        orderRefuses();
        manyRowsStayInOrder();
        limits();
        distinctRows();
        distinctBeforeOrderBeforeLimit();
        check.done();
    }

    /** A number, a text and a truth: (3,b,true) (1,a,NULL) (NULL,b,false) (3,NULL,true) (1,a,NULL). */
    private static QueryRunner five() {
        QueryRunner q = new QueryRunner();
        q.table(3, 321);
        Make.row(q, 0, 3, "b", true);
        Make.row(q, 0, 1, "a", null);
        Make.row(q, 0, null, "b", false);
        Make.row(q, 0, 3, null, true);
        Make.row(q, 0, 1, "a", null);
        return q;
    }

    private static void whereChooses() {
        QueryRunner q = five();
        q.item(q.column(0, 0));
        check.answers("13: no condition", q, 1, "3|1|null|3|1");
        check.yes("13: a column of truths", q.where(q.column(0, 2)));
        check.answers("13: where it is true", q, 1, "3|3");
        check.yes("13: another one from now on", q.where(q.node(25, q.column(0, 2), 0)));
        check.answers("13: NULL is not true", q, 1, "null");
        check.yes("13: NULL itself", q.where(Make.constant(q, null)));
        check.answers("13: none counts", q, 1, "");
        check.yes("13: a part of another", q.where(2));
        check.answers("13: is the condition as it is", q, 1, "3|3");
        check.yes("13: none", q.where(-1));
        check.answers("13: no condition again", q, 1, "3|1|null|3|1");
    }

    private static void whereRefuses() {
        QueryRunner q = five();
        q.item(q.column(0, 0));
        q.where(q.column(0, 2));
        int[] wrong = {
            q.column(0, 0), q.column(0, 1), q.node(23, q.node(5, 0, 0), 0), q.node(8, Make.constant(q, null), 0),
            -2, 200, 199, Integer.MIN_VALUE, Integer.MAX_VALUE
        };
        for (int node : wrong) {
            check.no("13: where(" + node + ")", q.where(node));
        }
        check.answers("13: the condition is as before", q, 1, "3|3");
    }

    private static void itemsAreAdded() {
        QueryRunner q = five();
        int node = q.column(0, 0);
        int[] none = {-1, 1, 200, Integer.MAX_VALUE, Integer.MIN_VALUE};
        for (int one : none) {
            check.same("14: item(" + one + ")", q.item(one), -1);
        }
        check.same("14: none of them is one", q.run(), -1);
        for (int i = 0; i < 8; i++) {
            check.same("14: one more, the same node too", q.item(node), i);
        }
        check.same("14: there are 8", q.item(node), -1);
        q.limit(1);
        check.answers("14: eight items", q, 8, "3,3,3,3,3,3,3,3");
    }

    private static void groupsAreMade() {
        QueryRunner q = five();
        check.yes("15: a group", q.group(q.column(0, 0)));
        q.item(q.column(0, 0));
        q.item(q.node(5, 0, 0));
        check.answers("15: in the order of the first ones, NULL like NULL", q, 2, "3,2|1,2|null,1");
        check.yes("15: a second group", q.group(q.column(0, 1)));
        check.answers("15: by both", q, 2, "3,1|1,2|null,1|3,1");
        q.item(q.column(0, 1));
        check.answers("15: its column may be an item", q, 3, "3,1,b|1,2,a|null,1,b|3,1,null");
        q.where(Make.constant(q, false));
        check.answers("15: no combination, no group", q, 3, "");
        QueryRunner r = five();
        r.group(r.column(0, 1));
        r.item(Make.constant(r, 8));
        check.answers("15: groups without their columns in items", r, 1, "8|8|8");
    }

    private static void groupRefuses() {
        QueryRunner q = five();
        int column = q.column(0, 0);
        int[] wrong = {
            -1, 200, Integer.MAX_VALUE, Integer.MIN_VALUE, Make.constant(q, 3), q.node(10, q.column(0, 0), 0),
            q.node(5, 0, 0)
        };
        for (int node : wrong) {
            check.no("15: group(" + node + ")", q.group(node));
        }
        q.item(q.column(0, 1));
        check.same("15: none of them is one", q.run(), 5);
        for (int i = 0; i < 4; i++) {
            check.yes("15: the same column too", q.group(column));
        }
        check.no("15: there are 4", q.group(column));
        check.same("15: not by the text", q.run(), -3);
    }

    private static QueryRunner ordered(boolean first, boolean second) {
        QueryRunner q = five();
        q.item(q.column(0, 0));
        q.item(q.column(0, 1));
        check.yes("16: by the number", q.order(0, first));
        check.yes("16: then by the text", q.order(1, second));
        return q;
    }

    private static void ordersRise() {
        check.answers("16: NULL behind all", ordered(false, false), 2, "1,a|1,a|3,b|3,null|null,b");
        check.answers("16: the second falling", ordered(false, true), 2, "1,a|1,a|3,null|3,b|null,b");
    }

    private static void ordersFall() {
        check.answers("16: the first falling", ordered(true, false), 2, "null,b|3,b|3,null|1,a|1,a");
        check.answers("16: both falling", ordered(true, true), 2, "null,b|3,null|3,b|1,a|1,a");
    }

    private static void ordersOfEachType() {
        QueryRunner q = new QueryRunner();
        q.table(2, 21);
        String[] texts = {"b", "", "a\0", "\u00ff", "a", "\u0080", "ab", null, "abcdefgh", "abcdefg\u00ff", "abcdefgha"};
        for (int i = 0; i < texts.length; i++) {
            Make.row(q, 0, i, texts[i]);
        }
        q.item(q.column(0, 0));
        q.item(q.column(0, 1));
        q.order(1, false);
        check.answers("16: bytes without sign, a beginning first", q, 1, "1|4|2|6|8|10|9|0|5|3|7");
        QueryRunner r = five();
        r.item(r.column(0, 2));
        r.order(0, false);
        check.answers("16: false before true", r, 1, "false|true|true|null|null");
        QueryRunner s = new QueryRunner();
        s.table(1, 1);
        for (long number : new long[] {1, Long.MAX_VALUE, -1, Long.MIN_VALUE, 0}) {
            Make.row(s, 0, number);
        }
        s.item(s.column(0, 0));
        s.order(0, true);
        check.answers("16: numbers with sign", s, 1, "9223372036854775807|1|0|-1|-9223372036854775808");
    }

    private static void orderRefuses() {
        QueryRunner q = five();
        check.no("16: no item", q.order(0, false));
        q.item(q.column(0, 0));
        int[] none = {-1, 1, 8, Integer.MAX_VALUE, Integer.MIN_VALUE};
        for (int item : none) {
            check.no("16: order(" + item + ")", q.order(item, true));
        }
        check.answers("16: none of them is one", q, 1, "3|1|null|3|1");
        q.item(q.column(0, 1));
        for (int i = 0; i < 3; i++) {
            check.yes("16: the same item too", q.order(0, i > 0));
        }
        check.yes("16: the fourth", q.order(1, true));
        check.no("16: there are 4", q.order(1, false));
        check.answers("16: the first ones count", q, 2, "1,a|1,a|3,null|3,b|null,b");
    }

    /** 37 rows, ordered by their remainder by 3, falling: the others stay as they are. */
    private static void manyRowsStayInOrder() {
        QueryRunner q = new QueryRunner();
        q.table(1, 1);
        for (int i = 0; i < 37; i++) {
            Make.row(q, 0, i);
        }
        q.item(q.column(0, 0));
        q.item(q.node(15, q.column(0, 0), Make.constant(q, 3)));
        q.order(1, true);
        StringBuilder due = new StringBuilder();
        for (int rest = 2; rest >= 0; rest--) {
            for (int i = rest; i < 37; i += 3) {
                due.append(due.length() == 0 ? "" : "|").append(i);
            }
        }
        check.answers("16: like ones stay as they are", q, 1, due.toString());
    }

    private static void limits() {
        QueryRunner q = five();
        q.item(q.column(0, 0));
        check.yes("17: two", q.limit(2));
        check.answers("17: the first two", q, 1, "3|1");
        check.same("17: no third", q.kind(2, 0), -1);
        check.yes("17: none at all", q.limit(0));
        check.answers("17: no row", q, 1, "");
        check.yes("17: five", q.limit(5));
        check.answers("17: all", q, 1, "3|1|null|3|1");
        check.yes("17: very many", q.limit(Integer.MAX_VALUE));
        check.answers("17: still all", q, 1, "3|1|null|3|1");
        check.yes("17: one", q.limit(1));
        check.no("17: below -1", q.limit(-2));
        check.no("17: far below -1", q.limit(Integer.MIN_VALUE));
        check.answers("17: one still", q, 1, "3");
        check.yes("17: no limit", q.limit(-1));
        check.answers("17: all again", q, 1, "3|1|null|3|1");
    }

    private static void distinctRows() {
        QueryRunner q = five();
        q.item(q.column(0, 0));
        q.distinct(true);
        check.answers("18: the first of like ones", q, 1, "3|1|null");
        q.item(q.column(0, 1));
        check.answers("18: like in all items", q, 2, "3,b|1,a|null,b|3,null");
        q.distinct(false);
        check.answers("18: off again", q, 2, "3,b|1,a|null,b|3,null|1,a");
        QueryRunner r = new QueryRunner();
        r.table(1, 2);
        for (String text : new String[] {"a", "a\0", "", "\0", "a", "", "\0", null, null}) {
            Make.row(r, 0, text);
        }
        r.item(r.node(24, r.column(0, 0), 0));
        r.item(r.column(0, 0));
        r.distinct(true);
        check.answers("18: texts of other lengths differ", r, 2, "true,a|true,a\0|true,|true,\0|false,null");
    }

    private static void distinctBeforeOrderBeforeLimit() {
        QueryRunner q = five();
        q.item(q.column(0, 0));
        q.distinct(true);
        q.order(0, true);
        q.limit(2);
        check.answers("18: like ones go, then the order, then the limit", q, 1, "null|3");
        QueryRunner r = five();
        r.group(r.column(0, 1));
        r.item(r.node(5, 0, 0));
        check.answers("18: groups with like items", r, 1, "2|2|1");
        r.distinct(true);
        check.answers("18: their rows go, too", r, 1, "2|1");
    }
}
