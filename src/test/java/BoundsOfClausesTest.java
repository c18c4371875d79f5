/** The sentences of promises 13 to 18 that name a boundary case, a method each. */
public final class BoundsOfClausesTest {
    private static final Check check = new Check("BoundsOfClausesTest");
    private static final int[] FAR = {Integer.MAX_VALUE, Integer.MIN_VALUE};

    public static void main(String[] args) {
        whereNone();
        whereOfNoNode();
        whereOfOtherTypes();
        whereOfTypeZero();
        whereOfAggregates();
        whereFromNowOn();
        itemCounts();
        itemOfNoNode();
        itemAt8();
        itemOfAnyNode();
        groupOfNoNode();
        groupOfOtherKinds();
        groupAt4();
        groupOfTheFourth();
        groupOfAnyColumn();
        groupOfAnyTable();
        orderOfNoItem();
        orderAt4();
        orderOfTheFourth();
        orderOfTheEighthItem();
        limitNone();
        limitOfNothing();
        limitAtTheEdge();
        limitBelow();
        limitFromNowOn();
        distinctOnAndOff();
        distinctFromNowOn();
        check.done();
    }

    /** 0 true, 1 false, 2 NULL, 3 true. */
    private static QueryRunner truths() {
        QueryRunner q = new QueryRunner();
        q.table(2, 31);
        Make.row(q, 0, 0, true);
        Make.row(q, 0, 1, false);
        Make.row(q, 0, 2);
        Make.row(q, 0, 3, true);
        q.item(q.column(0, 0));
        q.where(q.column(0, 1));
        return q;
    }

    private static void whereNone() {
        check.sentence("13: none if it is -1: true");
        QueryRunner q = truths();
        check.yes("where(-1)", q.where(-1));
        check.answers("all rows", q, 1, "0|1|2|3");
        check.yes("of none", q.where(-1));
        check.yes("of a new object", new QueryRunner().where(-1));
    }

    private static void whereOfNoNode() {
        check.sentence("13: refused, if there is no such node");
        QueryRunner q = truths();
        for (int none : new int[] {-2, -3, 2, 3, 199, 200, FAR[0], FAR[1]}) {
            check.no("where(" + none + ")", q.where(none));
        }
        check.answers("as before", q, 1, "0|3");
        check.no("of a new object", new QueryRunner().where(0));
    }

    private static void whereOfOtherTypes() {
        check.sentence("13: refused, if its type is not 3 or 0");
        QueryRunner q = truths();
        check.no("a column of numbers", q.where(q.column(0, 0)));
        check.no("a number", q.where(Make.constant(q, 1)));
        check.no("a text", q.where(Make.constant(q, "a")));
        int one = Make.constant(q, 1);
        check.no("a sum", q.where(q.node(11, one, Make.constant(q, 1))));
        int text = Make.constant(q, "");
        check.no("two texts", q.where(q.node(16, text, Make.constant(q, ""))));
        check.answers("as before", q, 1, "0|3");
    }

    private static void whereOfTypeZero() {
        check.sentence("13: its type is 0");
        QueryRunner q = truths();
        check.yes("NULL", q.where(Make.constant(q, null)));
        check.same("is never true", q.run(), 0);
    }

    private static void whereOfAggregates() {
        check.sentence("13: refused, if it has an aggregate");
        QueryRunner q = truths();
        check.no("of type 3", q.where(q.node(23, q.node(5, 0, 0), 0)));
        check.no("on the right", q.where(q.node(26, q.column(0, 1), q.node(24, q.node(5, 0, 0), 0))));
        check.no("of type 0", q.where(q.node(8, Make.constant(q, null), 0)));
        check.no("the rows", q.where(q.node(5, 0, 0)));
        check.answers("as before", q, 1, "0|3");
    }

    private static void whereFromNowOn() {
        check.sentence("13: The condition is a node from now on");
        QueryRunner q = truths();
        check.answers("the first", q, 1, "0|3");
        check.yes("another", q.where(q.node(23, q.column(0, 1), 0)));
        check.same("the answer is as it was", Make.answers(q, 2, 1), "0|3");
        check.answers("the second alone", q, 1, "2");
    }

    private static void itemCounts() {
        check.sentence("14: which it is");
        QueryRunner q = truths();
        check.same("the next", q.item(0), 1);
        check.same("none", q.item(-1), -1);
        check.same("the one behind it", q.item(1), 2);
        check.answers("in their order", q, 3, "0,0,true|3,3,true");
    }

    private static void itemOfNoNode() {
        check.sentence("14: refused, if there is no such node");
        QueryRunner q = Make.sized(1);
        for (int nodes = 0; nodes < 3; nodes++) {
            for (int none : new int[] {-1, -2, nodes, 199, 200, FAR[0], FAR[1]}) {
                check.same("item(" + none + ") of " + nodes, q.item(none), -1);
            }
            q.constant();
        }
        check.same("there is none", q.run(), -1);
    }

    private static void itemAt8() {
        check.sentence("14: refused, if there are 8");
        QueryRunner q = Make.sized(1);
        for (int i = 0; i < 8; i++) {
            check.same("item", q.item(Make.constant(q, 10 + i)), i);
        }
        check.same("one more", q.item(Make.constant(q, 99)), -1);
        check.same("and again", q.item(0), -1);
        check.answers("the first eight", q, 8, "10,11,12,13,14,15,16,17");
        check.same("no ninth", q.kind(0, 8), -1);
    }

    private static void itemOfAnyNode() {
        check.sentence("14: One more item, also of a node that is another's, a condition's, or an item");
        QueryRunner q = truths();
        int part = q.column(0, 0);
        int whole = q.node(10, part, 0);
        check.same("a part", q.item(part), 1);
        check.same("the whole", q.item(whole), 2);
        check.same("the condition", q.item(1), 3);
        check.same("an item", q.item(part), 4);
        check.answers("all", q, 5, "0,0,0,true,0|3,3,-3,true,3");
    }

    private static void groupOfNoNode() {
        check.sentence("15: refused, if it is none");
        QueryRunner q = truths();
        for (int none : new int[] {-1, -2, 2, 3, 199, 200, FAR[0], FAR[1]}) {
            check.no("group(" + none + ")", q.group(none));
        }
        check.answers("no group", q, 1, "0|3");
        check.no("of a new object", new QueryRunner().group(0));
    }

    private static void groupOfOtherKinds() {
        check.sentence("15: by a node of kind 4: refused, if it is none");
        QueryRunner q = truths();
        Object[] values = {null, 1, "a", true};
        for (Object value : values) {
            check.no("a constant " + value, q.group(Make.constant(q, value)));
        }
        for (int kind = 5; kind <= 27; kind++) {
            int a = Make.constant(q, null);
            int b = Make.constant(q, null);
            check.no("kind " + kind, q.group(q.node(kind, a, b)));
        }
        check.no("over a column", q.group(q.node(10, q.column(0, 0), 0)));
        q.item(1);
        check.answers("no group", q, 2, "0,true|3,true");
    }

    private static void groupAt4() {
        check.sentence("15: refused, if there are 4");
        QueryRunner q = truths();
        int other = q.column(0, 1);
        for (int i = 0; i < 4; i++) {
            check.yes("group", q.group(0));
        }
        check.no("one more", q.group(other));
        check.no("the same", q.group(0));
        q.item(other);
        check.same("the fifth is none", q.run(), -3);
    }

    /** Rows that differ in the fourth column alone. */
    private static void groupOfTheFourth() {
        check.sentence("15: One more group: each of the four counts");
        for (int last = 0; last < 4; last++) {
            QueryRunner q = new QueryRunner();
            q.table(4, 1111);
            Make.row(q, 0, 1, 1, 1, 1);
            q.cell(last, 2);
            q.add(0);
            q.add(0);
            for (int i = 0; i < 4; i++) {
                check.yes("group", q.group(q.column(0, i)));
            }
            q.item(q.column(0, last));
            q.item(q.node(5, 0, 0));
            check.answers("column " + last, q, 2, "1,1|2,2");
        }
    }

    private static void groupOfAnyColumn() {
        check.sentence("15: by a node of kind 4, also one that is another's");
        QueryRunner q = truths();
        q.where(-1);
        int part = q.column(0, 1);
        q.node(25, part, 0);
        check.yes("a part", q.group(part));
        check.same("the number is loose", q.run(), -3);
        check.yes("an item", q.group(0));
        check.answers("by both", q, 1, "0|1|2|3");
    }

    private static void groupOfAnyTable() {
        check.sentence("15: by a node of kind 4, of whichever table");
        String[] due = {"0,6|1,6", "0,4|1,4|2,4", "0,6|1,6"};
        for (int table = 0; table < 3; table++) {
            QueryRunner q = Make.sized(2, 3, 2);
            check.yes("group", q.group(q.column(table, 0)));
            q.item(q.column(table, 0));
            q.item(q.node(5, 0, 0));
            check.answers("table " + table, q, 2, due[table]);
        }
    }

    private static void orderOfNoItem() {
        check.sentence("16: refused, if there is no such item");
        QueryRunner q = Make.sized(3);
        q.constant();
        for (int items = 0; items <= 8; items++) {
            for (int none : new int[] {-1, items, 8, FAR[0], FAR[1]}) {
                check.no("order(" + none + ") of " + items, q.order(none, true));
            }
            q.item(items == 0 ? q.column(0, 0) : 0);
        }
        q.limit(3);
        int rows = q.run();
        check.same("no order", Make.answers(q, rows, 1), "0|1|2");
    }

    private static void orderAt4() {
        check.sentence("16: refused, if there are 4");
        QueryRunner q = new QueryRunner();
        q.table(2, 11);
        Make.row(q, 0, 1, 1);
        Make.row(q, 0, 1, 2);
        q.item(q.column(0, 0));
        q.item(q.column(0, 1));
        for (int i = 0; i < 4; i++) {
            check.yes("order", q.order(0, i % 2 == 0));
        }
        check.no("one more", q.order(1, true));
        check.no("and again", q.order(0, true));
        check.answers("the fifth is none", q, 2, "1,1|1,2");
    }

    /** Rows that differ in one column alone, each of the four orders in turn. */
    private static void orderOfTheFourth() {
        check.sentence("16: One more order: each of the four counts");
        for (int last = 0; last < 4; last++) {
            QueryRunner q = new QueryRunner();
            q.table(4, 1111);
            Make.row(q, 0, 1, 1, 1, 1);
            q.cell(last, 2);
            q.add(0);
            for (int i = 0; i < 4; i++) {
                q.item(q.column(0, i));
                check.yes("order", q.order(i, true));
            }
            q.run();
            check.same("column " + last + ", first", q.value(0, last), 2);
            check.same("column " + last + ", second", q.value(1, last), 1);
        }
    }

    private static void orderOfTheEighthItem() {
        check.sentence("16: by an item, the last of eight");
        QueryRunner q = Make.sized(3);
        int column = q.column(0, 0);
        int same = q.constant();
        for (int i = 0; i < 7; i++) {
            q.item(same);
        }
        check.same("item 7", q.item(column), 7);
        check.yes("order(7)", q.order(7, true));
        q.run();
        check.same("the greatest first", q.value(0, 7) * 100 + q.value(1, 7) * 10 + q.value(2, 7), 210);
    }

    private static QueryRunner three() {
        QueryRunner q = Make.sized(3);
        q.item(q.column(0, 0));
        return q;
    }

    private static void limitNone() {
        check.sentence("17: none if it is -1: true");
        QueryRunner q = three();
        q.limit(1);
        check.yes("limit(-1)", q.limit(-1));
        check.answers("all", q, 1, "0|1|2");
        check.yes("again", q.limit(-1));
        check.answers("all still", q, 1, "0|1|2");
    }

    private static void limitOfNothing() {
        check.sentence("17: The limit is 0");
        QueryRunner q = three();
        check.yes("limit(0)", q.limit(0));
        check.same("no row", q.run(), 0);
        check.same("none to read", q.kind(0, 0), -1);
        QueryRunner r = three();
        r.limit(0);
        r.distinct(true);
        r.order(0, true);
        check.same("of distinct and ordered ones", r.run(), 0);
    }

    private static void limitAtTheEdge() {
        check.sentence("17: The limit is n");
        String[] due = {"", "0", "0|1", "0|1|2", "0|1|2"};
        for (int n = 0; n <= 4; n++) {
            QueryRunner q = three();
            check.yes("limit(" + n + ")", q.limit(n));
            check.answers("limit " + n, q, 1, due[n]);
        }
        QueryRunner q = three();
        check.yes("the greatest", q.limit(Integer.MAX_VALUE));
        check.answers("the greatest", q, 1, "0|1|2");
    }

    private static void limitBelow() {
        check.sentence("17: false if n is less");
        for (int n : new int[] {-2, -3, -100, Integer.MIN_VALUE}) {
            QueryRunner q = three();
            check.no("limit(" + n + ") of none", q.limit(n));
            check.answers("no limit", q, 1, "0|1|2");
            q.limit(2);
            check.no("limit(" + n + ") of 2", q.limit(n));
            check.answers("two still", q, 1, "0|1");
        }
    }

    private static void limitFromNowOn() {
        check.sentence("17: from now on");
        QueryRunner q = three();
        check.answers("without", q, 1, "0|1|2");
        q.limit(1);
        check.same("the answer is as it was", Make.answers(q, 3, 1), "0|1|2");
        check.answers("one", q, 1, "0");
        check.same("no second", q.kind(1, 0), -1);
        q.limit(2);
        check.answers("two", q, 1, "0|1");
    }

    private static QueryRunner doubled() {
        QueryRunner q = new QueryRunner();
        q.table(1, 1);
        for (int number : new int[] {5, 5, 6, 5}) {
            Make.row(q, 0, number);
        }
        q.item(q.column(0, 0));
        return q;
    }

    private static void distinctOnAndOff() {
        check.sentence("18: Whether it is distinct");
        QueryRunner q = doubled();
        check.answers("not at first", q, 1, "5|5|6|5");
        q.distinct(false);
        check.answers("not", q, 1, "5|5|6|5");
        q.distinct(true);
        check.answers("distinct", q, 1, "5|6");
        q.distinct(true);
        check.answers("distinct still", q, 1, "5|6");
        q.distinct(false);
        check.answers("not any more", q, 1, "5|5|6|5");
    }

    private static void distinctFromNowOn() {
        check.sentence("18: from now on");
        QueryRunner q = doubled();
        q.run();
        q.distinct(true);
        check.same("the answer is as it was", Make.answers(q, 4, 1), "5|5|6|5");
        check.same("no fifth", q.kind(4, 0), -1);
        check.answers("distinct", q, 1, "5|6");
    }
}
