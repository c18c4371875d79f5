/** Promises 1 to 8: a new object, reset, tables and the row in hand. */
public final class TablesTest {
    private static final Check check = new Check("TablesTest");

    public static void main(String[] args) {
        newObject();
        resetForgetsAll();
        tableTakesTypes();
        tableRefuses();
        clearEmptiesTheHand();
        cellPutsNumbers();
        truthPutsTruths();
        textGoesOn();
        textRefuses();
        addTakesRows();
        addRefuses();
        addedRowsStay();
        check.done();
    }

    /** What the cells of the hand hold, by the types of constants made of them; cell 0 alone can be one. */
    private static int handType(QueryRunner q) {
        return q.type(q.constant());
    }

    /** A table that takes a row has only NULLs or values of its types in it. */
    private static boolean handIsNull(QueryRunner q) {
        int before = q.table(8, 11111111);
        int after = q.table(8, 22222222);
        return q.add(before) == 1 && q.add(after) == 1;
    }

    private static void newObject() {
        QueryRunner q = new QueryRunner();
        check.same("1: run of nothing", q.run(), -1);
        check.same("1: no table to add to", q.add(0), -1);
        check.same("1: no column", q.column(0, 0), -1);
        check.same("1: no node", q.type(0), -1);
        check.no("1: no item to order", q.order(0, false));
        check.same("1: no answer", q.kind(0, 0), -1);
        check.same("1: no value", q.value(0, 0), 0);
        check.same("1: no letter", q.letter(0, 0, 0), -1);
        check.yes("1: the hand is NULL", handIsNull(q));
        check.same("1: two tables are there by now", q.table(1, 1), 2);
        check.same("1: the first node is 0", q.constant(), 0);
        check.same("1: cell 0 is NULL", q.type(0), 0);
        check.same("1: the first item is 0", q.item(0), 0);
        check.same("1: no limit, not distinct, no condition", oneRowEach(), 3);
    }

    private static int oneRowEach() {
        QueryRunner q = new QueryRunner();
        q.table(1, 1);
        for (int i = 0; i < 3; i++) {
            q.add(0);
        }
        q.item(q.constant());
        return q.run();
    }

    private static void resetForgetsAll() {
        QueryRunner q = new QueryRunner();
        q.table(1, 1);
        Make.row(q, 0, 5);
        int truth = Make.constant(q, false);
        int item = q.item(q.column(0, 0));
        q.where(truth);
        q.group(q.column(0, 0));
        q.order(item, true);
        q.limit(0);
        q.distinct(true);
        check.same("2: before", q.run(), 0);
        q.where(-1);
        q.limit(1);
        check.same("2: before, with a row", q.run(), 1);
        for (int i = 0; i < 8; i++) {
            q.cell(i, 3);
        }
        q.reset();
        check.same("2: no tables", q.run(), -1);
        check.same("2: no answer", q.kind(0, 0), -1);
        check.same("2: no value", q.value(0, 0), 0);
        check.same("2: no nodes", q.type(0), -1);
        check.no("2: no items", q.order(0, false));
        check.same("2: hand is NULL", handType(q), 0);
        check.same("2: a table is 0 again", q.table(2, 22), 0);
        check.same("2: the table is empty", q.add(0), 1);
        check.same("2: and goes on", q.add(0), 2);
        check.same("2: no items to run", q.run(), -1);
        check.same("2: item 0", q.item(0), 0);
        check.same("2: no condition, groups, limit, distinct", q.run(), 2);
        check.same("2: item 1, no group so no loose column", q.item(q.column(0, 0)), 1);
        check.same("2: still no groups", q.run(), 2);
        for (int i = 0; i < 4; i++) {
            check.yes("2: all four orders are free", q.order(0, false));
            check.yes("2: all four groups are free", q.group(1));
        }
    }

    private static void tableTakesTypes() {
        QueryRunner q = new QueryRunner();
        check.same("3: column 0 is the lowest digit", q.table(3, 321), 0);
        for (int i = 0; i < 3; i++) {
            check.same("3: type of column " + i, q.type(q.column(0, i)), i + 1);
        }
        check.same("3: no fourth column", q.column(0, 3), -1);
        check.same("3: eight columns, further digits are not looked at", q.table(8, 2012312312), 1);
        check.same("3: column 7", q.type(q.column(1, 7)), 1);
        check.same("3: column 0", q.type(q.column(1, 0)), 2);
        check.same("3: no ninth column", q.column(1, 8), -1);
        check.same("3: higher digits can be anything", q.table(1, 901), 2);
        check.same("3: there are three", q.table(1, 1), -1);
    }

    private static void tableRefuses() {
        QueryRunner q = new QueryRunner();
        int[][] wrong = {
            {0, 1}, {-1, 1}, {9, 111111111}, {1, 0}, {1, 4}, {1, 9}, {2, 1}, {2, 14}, {2, 41}, {3, 101},
            {1, -1}, {1, -9}, {Integer.MIN_VALUE, 1}, {Integer.MAX_VALUE, 1}, {1, Integer.MIN_VALUE},
            {8, 1111111}, {8, 41111111}, {2, 10}
        };
        for (int[] one : wrong) {
            check.same("3: table(" + one[0] + ", " + one[1] + ")", q.table(one[0], one[1]), -1);
        }
        check.same("3: refused ones are not there", q.add(0), -1);
        check.same("3: the first is 0 still", q.table(1, 1), 0);
    }

    private static void clearEmptiesTheHand() {
        QueryRunner q = new QueryRunner();
        for (int i = 0; i < 8; i++) {
            q.truth(i, true);
        }
        q.clear();
        check.yes("4: all NULL", handIsNull(q));
        Make.write(q, 0, "abc");
        q.clear();
        check.yes("4: a text begins again", q.text(0, 'x', 1));
        check.same("4: one letter long", lengthInHand(q), 1);
    }

    private static long lengthInHand(QueryRunner q) {
        int table = q.table(1, 1);
        q.item(q.constant());
        q.clear();
        q.add(table);
        q.run();
        return q.value(0, 0);
    }

    private static void cellPutsNumbers() {
        QueryRunner q = new QueryRunner();
        check.yes("5: column 0", q.cell(0, Long.MIN_VALUE));
        check.yes("5: column 7", q.cell(7, 1));
        check.no("5: column 8", q.cell(8, 1));
        check.no("5: column -1", q.cell(-1, 1));
        check.no("5: a far column", q.cell(Integer.MAX_VALUE, 1));
        check.no("5: a column far below", q.cell(Integer.MIN_VALUE, 1));
        check.same("5: an INT", handType(q), 1);
        check.same("5: its value", lengthInHand(q), Long.MIN_VALUE);
        q.truth(0, true);
        q.cell(0, 4);
        check.same("5: an INT in place of a BOOL", handType(q), 1);
    }

    private static void truthPutsTruths() {
        QueryRunner q = new QueryRunner();
        check.yes("6: column 0", q.truth(0, true));
        check.yes("6: column 7", q.truth(7, false));
        check.no("6: column 8", q.truth(8, true));
        check.no("6: column -1", q.truth(-1, true));
        check.no("6: a far column", q.truth(Integer.MIN_VALUE, true));
        check.same("6: a BOOL", handType(q), 3);
        check.same("6: true", lengthInHand(q), 1);
        q.cell(0, 9);
        q.truth(0, false);
        check.same("6: a BOOL in place of an INT", handType(q), 3);
    }

    private static String textOf(QueryRunner q) {
        q.item(q.constant());
        q.clear();
        q.add(q.table(1, 1));
        q.run();
        return String.valueOf(Make.answer(q, 0, 0));
    }

    private static void textGoesOn() {
        QueryRunner q = new QueryRunner();
        check.yes("7: the highest byte first", q.text(0, 0x4142434445464748L, 8));
        check.yes("7: the lowest ones alone", q.text(0, 0x4142434445464748L, 2));
        check.yes("7: no byte", q.text(0, 0x41, 0));
        check.yes("7: bytes that are not there are 0", q.text(0, 0x7a, 2));
        check.yes("7: bytes above 127", q.text(0, -1, 1));
        check.same("7: a TEXT", handType(q), 2);
        check.yes("7: the text", textOf(q).equals("ABCDEFGHGH\0z\u00ff"));
        QueryRunner r = new QueryRunner();
        r.cell(0, 77);
        check.yes("7: an INT was no text", r.text(0, 'q', 1));
        check.yes("7: so it is q", textOf(r).equals("q"));
        QueryRunner s = new QueryRunner();
        s.truth(0, true);
        check.yes("7: no bytes make an empty TEXT", s.text(0, 'q', 0));
        check.same("7: and it is one", handType(s), 2);
        check.yes("7: empty", textOf(s).isEmpty());
    }

    private static void textRefuses() {
        QueryRunner q = new QueryRunner();
        int[] columns = {-1, 8, Integer.MAX_VALUE, Integer.MIN_VALUE};
        for (int column : columns) {
            check.no("7: column " + column, q.text(column, 'a', 1));
        }
        int[] counts = {-1, 9, Integer.MAX_VALUE, Integer.MIN_VALUE};
        for (int n : counts) {
            check.no("7: n " + n, q.text(0, 'a', n));
        }
        check.same("7: a refused text leaves NULL", handType(q), 0);
        q.cell(0, 5);
        check.no("7: nine bytes", q.text(0, 'a', 9));
        check.same("7: a refused text leaves the INT", handType(q), 1);
        check.yes("7: 8", q.text(0, 0x6161616161616161L, 8));
        check.yes("7: 16", q.text(0, 0x6262626262626262L, 8));
        check.yes("7: 24", q.text(0, 0x6363636363636363L, 8));
        check.no("7: 32", q.text(0, 0x6464646464646464L, 8));
        check.yes("7: 31", q.text(0, 0x64646464646464L, 7));
        check.no("7: one more", q.text(0, 'e', 1));
        check.yes("7: none more", q.text(0, 'e', 0));
        check.yes("7: the text", textOf(q).equals("aaaaaaaabbbbbbbbccccccccddddddd"));
    }

    private static void addTakesRows() {
        QueryRunner q = new QueryRunner();
        q.table(3, 321);
        q.table(1, 2);
        check.same("8: a row", Make.row(q, 0, 1, "a", true), 1);
        check.same("8: the hand stays as it is", q.add(0), 2);
        check.same("8: NULLs fit", Make.row(q, 0), 3);
        q.cell(3, 5);
        q.truth(7, true);
        check.same("8: cells behind its columns are not looked at", q.add(0), 4);
        check.same("8: another table counts by itself", Make.row(q, 1, ""), 1);
        q.clear();
        for (int i = 2; i <= 40; i++) {
            check.same("8: row " + i, q.add(1), i);
        }
        check.same("8: it has 40", q.add(1), -1);
        check.same("8: the other has not", q.add(0), 5);
    }

    private static void addRefuses() {
        QueryRunner q = new QueryRunner();
        q.table(3, 321);
        q.table(1, 1);
        int[] none = {-1, 2, 3, Integer.MAX_VALUE, Integer.MIN_VALUE};
        for (int table : none) {
            check.same("8: no table " + table, q.add(table), -1);
        }
        Object[][] wrong = {
            {"a"}, {true}, {1, 2}, {1, true}, {1, "a", 3}, {1, "a", "b"}, {null, null, 0}
        };
        for (Object[] row : wrong) {
            check.same("8: a type that is not its", Make.row(q, 0, row), -1);
        }
        check.same("8: none of them is there", Make.row(q, 0, 1, "a", true), 1);
    }

    private static void addedRowsStay() {
        QueryRunner q = new QueryRunner();
        q.table(2, 21);
        Make.row(q, 0, 1, "one");
        q.cell(0, 2);
        q.text(1, '!', 1);
        q.add(0);
        q.clear();
        q.add(0);
        q.item(q.column(0, 0));
        q.item(q.column(0, 1));
        check.same("8: three rows", q.run(), 3);
        check.yes("8: as they came", Make.answers(q, 3, 2).equals("1,one|2,one!|null,null"));
    }
}
