/** Promises 19 to 22: running a query and reading its answer. */
public final class RunTest {
    private static final Check check = new Check("RunTest");

    public static void main(String[] args) {
        refusesNothingToRun();
        combinationsInOrder();
        emptyTables();
        refusesLooseColumns();
        refusesTooManyCombinations();
        refusesTooManyThatCount();
        refusalsGoInOrder();
        refusedRunsKeepTheAnswer();
        keepsTheFirst64();
        answersStay();
        readsKinds();
        readsNothing();
        manyGroups();
        check.done();
    }

    private static void refusesNothingToRun() {
        QueryRunner q = new QueryRunner();
        q.item(Make.constant(q, 1));
        check.same("19: no tables", q.run(), -1);
        q.table(1, 1);
        check.same("19: a table and an item", q.run(), 0);
        check.same("19: no items", Make.sized(2).run(), -1);
    }

    private static void combinationsInOrder() {
        QueryRunner q = Make.sized(2, 2, 3);
        for (int table = 0; table < 3; table++) {
            q.item(q.column(table, 0));
        }
        check.answers("19: the row of table 2 goes fastest", q, 3,
            "0,0,0|0,0,1|0,0,2|0,1,0|0,1,1|0,1,2|1,0,0|1,0,1|1,0,2|1,1,0|1,1,1|1,1,2");
        q.where(q.node(17, q.column(0, 0), q.column(2, 0)));
        check.answers("19: a join", q, 3, "0,0,0|0,1,0|1,0,1|1,1,1");
        QueryRunner r = Make.sized(2, 3);
        r.item(r.column(1, 0));
        check.answers("19: tables without an item count, too", r, 1, "0|1|2|0|1|2");
    }

    private static void emptyTables() {
        QueryRunner q = Make.sized(3, 0);
        q.item(q.column(0, 0));
        check.same("19: an empty table leaves no combination", q.run(), 0);
        q.add(1);
        check.same("19: until it has a row", q.run(), 3);
        QueryRunner r = Make.sized(3, 0, 2);
        r.item(r.node(5, 0, 0));
        check.answers("19: one row of none", r, 1, "0");
    }

    private static void refusesLooseColumns() {
        QueryRunner q = Make.sized(3, 1);
        int first = q.column(0, 0);
        q.item(first);
        check.same("19: no groups, no aggregate", q.run(), 3);
        int rows = q.node(5, 0, 0);
        check.same("19: an aggregate in no item", q.run(), 3);
        q.item(rows);
        check.same("19: an aggregate beside a column", q.run(), -3);
        q.group(q.column(1, 0));
        check.same("19: another column is the group", q.run(), -3);
        q.group(q.column(0, 0));
        check.same("19: another node of its column is the group", q.run(), 3);
        q.item(q.node(11, q.column(0, 0), q.column(1, 0)));
        check.same("19: deep in an item, of groups", q.run(), 3);
        QueryRunner r = Make.sized(3);
        r.item(r.node(11, r.column(0, 0), r.node(7, r.column(0, 0), 0)));
        check.same("19: in and outside an aggregate", r.run(), -3);
        QueryRunner s = Make.sized(3);
        s.where(s.node(19, s.column(0, 0), Make.constant(s, 2)));
        s.item(s.node(7, s.column(0, 0), 0));
        check.answers("19: a column of the condition is not an item's", s, 1, "1");
        QueryRunner t = new QueryRunner();
        t.table(2, 11);
        t.group(t.column(0, 0));
        t.item(t.column(0, 1));
        check.same("19: also without rows", t.run(), -3);
    }

    private static void refusesTooManyCombinations() {
        QueryRunner q = Make.sized(40, 40, 25);
        q.item(q.node(5, 0, 0));
        q.where(q.node(17, q.column(2, 0), Make.constant(q, 24)));
        check.same("19: 40000", q.run(), 1);
        check.same("19: 1600 of them", q.value(0, 0), 1600);
        Make.row(q, 2, 24);
        check.same("19: 41600", q.run(), -2);
        q.where(Make.constant(q, false));
        check.same("19: even if none counts", q.run(), -2);
        QueryRunner r = Make.sized(40, 40, 0);
        r.item(r.node(5, 0, 0));
        check.same("19: 0 counts as 1", r.run(), 1);
        check.same("19: of no combination", r.value(0, 0), 0);
    }

    private static void refusesTooManyThatCount() {
        QueryRunner q = Make.sized(40, 25, 2);
        q.item(q.node(5, 0, 0));
        check.same("19: 2000 count", q.run(), 1);
        check.same("19: all 2000", q.value(0, 0), 2000);
        Make.row(q, 1, 25);
        check.same("19: 2080 count", q.run(), -2);
        q.limit(1);
        q.distinct(true);
        check.same("19: whatever the limit", q.run(), -2);
        int last = q.node(19, q.column(1, 0), Make.constant(q, 25));
        q.where(last);
        check.same("19: 2000 count again", q.run(), 1);
        int ends = q.node(26, q.node(17, q.column(0, 0), Make.constant(q, 39)),
            q.node(17, q.column(2, 0), Make.constant(q, 1)));
        q.where(q.node(27, last, ends));
        check.same("19: 2001 count", q.run(), -2);
    }

    private static void refusalsGoInOrder() {
        QueryRunner q = Make.sized(40, 40, 40);
        check.same("19: -1 before -2", q.run(), -1);
        q.item(q.column(0, 0));
        check.same("19: too many", q.run(), -2);
        q.group(q.column(1, 0));
        check.same("19: -3 before -2", q.run(), -3);
    }

    private static void refusedRunsKeepTheAnswer() {
        QueryRunner q = Make.sized(40, 2);
        q.item(q.column(0, 0));
        q.item(q.column(1, 0));
        q.limit(5);
        check.same("19: five", q.run(), 5);
        String before = Make.answers(q, 5, 2);
        check.yes("19: the answer " + before, before.equals("0,0|0,1|1,0|1,1|2,0"));
        q.table(1, 1);
        q.clear();
        for (int i = 0; i < 26; i++) {
            q.add(2);
        }
        q.order(0, true);
        check.same("19: 2080 count", q.run(), -2);
        check.yes("19: the answer is as before -2", Make.answers(q, 5, 2).equals(before));
        q.item(q.node(5, 0, 0));
        check.same("19: loose", q.run(), -3);
        check.yes("19: the answer is as before -3", Make.answers(q, 5, 2).equals(before));
        check.same("20: no more rows", q.kind(5, 0), -1);
        check.same("20: an item that came later is none of its", q.kind(0, 2), -1);
    }

    private static void keepsTheFirst64() {
        QueryRunner q = Make.sized(40, 40);
        q.item(q.column(0, 0));
        q.item(q.column(1, 0));
        check.same("19: all rows are told", q.run(), 1600);
        check.same("20: row 63 is kept", q.kind(63, 1), 1);
        check.same("21: and is 1, 23", q.value(63, 0) * 100 + q.value(63, 1), 123);
        check.same("20: row 64 is not", q.kind(64, 0), -1);
        check.same("21: row 64 is not", q.value(64, 0), 0);
        q.order(1, true);
        q.order(0, true);
        check.same("19: ordered", q.run(), 1600);
        check.same("21: the last is first", q.value(0, 0) * 100 + q.value(0, 1), 3939);
        check.same("21: row 63", q.value(63, 0) * 100 + q.value(63, 1), 1638);
        q.limit(65);
        check.same("19: a limit above what is kept", q.run(), 65);
        check.same("20: row 64 is not kept", q.kind(64, 0), -1);
        q.limit(63);
        check.same("19: a limit below it", q.run(), 63);
        check.same("20: no row 63", q.kind(63, 0), -1);
        q.limit(-1);
        q.distinct(true);
        check.same("19: all differ", q.run(), 1600);
    }

    private static void answersStay() {
        QueryRunner q = Make.sized(2);
        q.item(q.column(0, 0));
        q.run();
        Make.row(q, 0, 77);
        q.where(Make.constant(q, false));
        q.limit(0);
        q.order(0, true);
        q.item(0);
        q.clear();
        check.yes("19: an answer stays until the next", Make.answers(q, 2, 1).equals("0|1"));
        check.same("20: with its rows", q.kind(2, 0), -1);
        check.same("20: with its items", q.kind(0, 1), -1);
        check.same("19: the next", q.run(), 0);
        check.same("20: it has none", q.kind(0, 0), -1);
    }

    private static void readsKinds() {
        QueryRunner q = Make.sized(1);
        Object[] values = {null, -5L, "a\u00ff\0", true, false, ""};
        int[] kinds = {0, 1, 2, 3, 3, 2};
        long[] numbers = {0, -5, 3, 1, 0, 0};
        for (Object value : values) {
            q.item(Make.constant(q, value));
        }
        q.run();
        for (int i = 0; i < values.length; i++) {
            check.same("20: kind of item " + i, q.kind(0, i), kinds[i]);
            check.same("21: value of item " + i, q.value(0, i), numbers[i]);
            check.same("22: letter 0 of item " + i, q.letter(0, i, 0), i == 2 ? 'a' : -1);
        }
        check.same("22: a byte above 127", q.letter(0, 2, 1), 255);
        check.same("22: a byte that is 0", q.letter(0, 2, 2), 0);
        check.same("22: no byte 3", q.letter(0, 2, 3), -1);
        check.same("22: no byte -1", q.letter(0, 2, -1), -1);
        check.same("22: no far byte", q.letter(0, 2, Integer.MAX_VALUE), -1);
        check.same("22: no byte far below", q.letter(0, 2, Integer.MIN_VALUE), -1);
        QueryRunner r = Make.sized(1);
        String whole = "0123456789abcdefghijklmnopqrstu";
        r.item(Make.constant(r, whole));
        r.run();
        check.same("21: 31 bytes", r.value(0, 0), 31);
        check.yes("22: each of them", whole.equals(Make.answer(r, 0, 0)));
        check.same("22: no byte 31", r.letter(0, 0, 31), -1);
    }

    private static void readsNothing() {
        QueryRunner q = Make.sized(2);
        q.item(Make.constant(q, "ab"));
        q.run();
        int[][] none = {
            {2, 0}, {-1, 0}, {0, 1}, {0, -1}, {64, 0}, {0, 8}, {1, 7}, {Integer.MAX_VALUE, 0},
            {Integer.MIN_VALUE, 0}, {0, Integer.MAX_VALUE}, {0, Integer.MIN_VALUE}
        };
        for (int[] one : none) {
            String where = "(" + one[0] + ", " + one[1] + ")";
            check.same("20: kind" + where, q.kind(one[0], one[1]), -1);
            check.same("21: value" + where, q.value(one[0], one[1]), 0);
            check.same("22: letter" + where, q.letter(one[0], one[1], 0), -1);
        }
    }

    /** 1600 combinations, each a group of its own, or with 79 sums that differ. */
    private static void manyGroups() {
        QueryRunner q = Make.sized(40, 40);
        q.group(q.column(0, 0));
        q.group(q.column(1, 0));
        q.item(q.node(5, 0, 0));
        check.same("19: each is a group", q.run(), 1600);
        q.distinct(true);
        check.same("19: all with one row", q.run(), 1);
        check.same("21: one", q.value(0, 0), 1);
        QueryRunner r = Make.sized(40, 40);
        r.item(r.node(11, r.column(0, 0), r.column(1, 0)));
        r.distinct(true);
        check.same("19: sums that differ", r.run(), 79);
    }
}
