/** The sentences of promises 1 to 8 that name a boundary case, a method each. */
public final class BoundsOfTablesTest {
    private static final Check check = new Check("BoundsOfTablesTest");
    private static final int[] NO_CELLS = {-1, 8, 9, Integer.MAX_VALUE, Integer.MIN_VALUE};
    private static final String ALL_NULL = "null,null,null,null,null,null,null,null";
    private static final String WHOLE = "0123456789abcdefghijklmnopqrstu";

    public static void main(String[] args) {
        newHasNoTables();
        newHasNoNodes();
        newHasNoItems();
        newHasNoAnswer();
        newHasAnEmptyHand();
        newObjectsStandApart();
        resetFreesTables();
        resetFreesNodes();
        resetFreesClauses();
        resetForgetsClauses();
        resetForgetsItemsNodes();
        resetForgetsRowOfNone();
        resetForgetsAnswer();
        resetEmptiesHand();
        resetOfNew();
        tablesAreThree();
        tableTooNarrowOrWide();
        tableDigitsOfNoType();
        tableHigherDigits();
        tableTypesBelowZero();
        tableLowestDigitFirst();
        clearEveryCell();
        clearOfNull();
        cellEveryColumn();
        cellOfNoColumn();
        cellExtremes();
        cellInPlaceOfOthers();
        truthEveryColumn();
        truthOfNoColumn();
        truthInPlaceOfOthers();
        textEveryColumn();
        textHighestFirst();
        textBehindOthers();
        textOfNoColumn();
        textOfWrongCount();
        textUpTo31();
        textNotBeyond31();
        addCounts();
        addToNoTable();
        addToFullTable();
        addOfOtherTypes();
        addOfNull();
        addLooksAtItsColumnsAlone();
        addLeavesTheHand();
        check.done();
    }

    private static void newHasNoTables() {
        check.sentence("1: No tables");
        QueryRunner q = new QueryRunner();
        check.same("add(0)", q.add(0), -1);
        check.same("column(0, 0)", q.column(0, 0), -1);
        q.item(q.constant());
        check.same("run with an item", q.run(), -1);
        check.same("the first table", q.table(1, 1), 0);
    }

    private static void newHasNoNodes() {
        check.sentence("1: No nodes");
        QueryRunner q = new QueryRunner();
        check.same("type(0)", q.type(0), -1);
        check.same("item(0)", q.item(0), -1);
        check.no("where(0)", q.where(0));
        check.no("group(0)", q.group(0));
        check.same("node(23, 0, 0)", q.node(23, 0, 0), -1);
        check.same("the first node", q.node(5, 0, 0), 0);
    }

    private static void newHasNoItems() {
        check.sentence("1: No items");
        QueryRunner q = new QueryRunner();
        check.no("order(0)", q.order(0, false));
        q.table(1, 1);
        check.same("run with a table", q.run(), -1);
        check.same("the first item", q.item(q.constant()), 0);
    }

    private static void newHasNoAnswer() {
        check.sentence("1: No answer");
        QueryRunner q = new QueryRunner();
        check.same("kind(0, 0)", q.kind(0, 0), -1);
        check.same("value(0, 0)", q.value(0, 0), 0);
        check.same("letter(0, 0, 0)", q.letter(0, 0, 0), -1);
    }

    private static void newHasAnEmptyHand() {
        check.sentence("1: the row in hand all NULL");
        for (int type = 1; type <= 3; type++) {
            check.same("as type " + type, Make.hand(new QueryRunner(), type * 11111111), ALL_NULL);
        }
        QueryRunner q = new QueryRunner();
        check.same("cell 0 as a constant", q.type(q.constant()), 0);
    }

    private static void newObjectsStandApart() {
        check.sentence("1: A new object, beside another");
        QueryRunner q = Make.sized(2);
        q.item(q.column(0, 0));
        q.run();
        QueryRunner other = new QueryRunner();
        check.same("its first table", other.table(1, 2), 0);
        check.same("its first node", other.constant(), 0);
        check.same("its type", other.type(0), 0);
        check.same("its first item", other.item(0), 0);
        check.same("its answer", other.run(), 0);
        check.same("that of the one before stays", Make.answers(q, 2, 1), "0|1");
        check.answers("and runs again", q, 1, "0|1");
    }

    private static void fillTables(QueryRunner q) {
        for (int table = 0; table < 3; table++) {
            check.same("table", q.table(1, 1), table);
        }
        for (int row = 1; row <= 40; row++) {
            check.same("row", q.add(2), row);
        }
        check.same("a fourth table", q.table(1, 1), -1);
        check.same("a 41st row", q.add(2), -1);
    }

    private static void resetFreesTables() {
        check.sentence("2: All is as at first again: tables and rows");
        QueryRunner q = new QueryRunner();
        fillTables(q);
        q.reset();
        for (int table = 0; table < 3; table++) {
            check.same("no table " + table, q.add(table), -1);
        }
        fillTables(q);
    }

    private static void resetFreesNodes() {
        check.sentence("2: All is as at first again: nodes");
        QueryRunner q = new QueryRunner();
        for (int node = 0; node < 100; node++) {
            q.constant();
        }
        for (int node = 0; node < 100; node++) {
            q.node(6, node, 0);
        }
        check.same("all 200 are there", q.type(199), 11);
        q.reset();
        check.same("no first", q.type(0), -1);
        check.same("no last", q.type(199), -1);
        for (int node = 0; node < 200; node++) {
            check.same("a node", node == 150 ? q.node(11, 0, 1) : q.constant(), node);
        }
        check.same("none has an aggregate", q.type(199), 0);
        check.same("there are 200 again", q.constant(), -1);
    }

    private static void fillClauses(QueryRunner q) {
        q.table(1, 1);
        int node = q.column(0, 0);
        for (int i = 0; i < 8; i++) {
            check.same("item", q.item(node), i);
        }
        for (int i = 0; i < 4; i++) {
            check.yes("group", q.group(node));
            check.yes("order", q.order(7, false));
        }
        check.same("a ninth item", q.item(node), -1);
        check.no("a fifth group", q.group(node));
        check.no("a fifth order", q.order(0, false));
    }

    private static void resetFreesClauses() {
        check.sentence("2: All is as at first again: items, groups and orders");
        QueryRunner q = new QueryRunner();
        fillClauses(q);
        q.reset();
        check.no("no item to order", q.order(0, false));
        fillClauses(q);
    }

    /** Two rows of two like ones: a condition, limit, distinct, group or order left over would show. */
    private static void resetForgetsClauses() {
        check.sentence("2: All is as at first again: condition, limit, distinct");
        QueryRunner q = new QueryRunner();
        q.where(Make.constant(q, false));
        q.limit(0);
        q.distinct(true);
        q.table(1, 1);
        q.item(0);
        q.group(q.column(0, 0));
        q.order(0, true);
        q.reset();
        q.table(2, 11);
        Make.row(q, 0, 1, 5);
        Make.row(q, 0, 2, 5);
        Make.row(q, 0, 1, 5);
        q.item(q.column(0, 0));
        q.item(q.column(0, 1));
        check.answers("all rows, as they came", q, 2, "1,5|2,5|1,5");
    }

    private static void resetForgetsItemsNodes() {
        check.sentence("2: All is as at first again: a node that was an item is none");
        QueryRunner q = Make.sized(2);
        q.item(q.column(0, 0));
        check.answers("a column", q, 1, "0|1");
        q.reset();
        q.table(1, 1);
        q.add(0);
        check.same("a column in the same place", q.column(0, 0), 0);
        q.item(q.node(5, 0, 0));
        check.answers("an aggregate beside it", q, 1, "1");
    }

    private static void resetForgetsRowOfNone() {
        check.sentence("2: All is as at first again: after one row of no combination");
        QueryRunner q = Make.sized(3);
        q.item(q.node(5, 0, 0));
        q.where(Make.constant(q, false));
        check.answers("one row of none", q, 1, "0");
        q.reset();
        q.table(1, 1);
        for (int number = 6; number <= 8; number++) {
            q.cell(0, number);
            q.add(0);
        }
        q.item(q.column(0, 0));
        check.answers("each a row", q, 1, "6|7|8");
    }

    private static void resetForgetsAnswer() {
        check.sentence("2: All is as at first again: no answer");
        QueryRunner q = Make.sized(1);
        q.item(Make.constant(q, "ab"));
        check.answers("before", q, 1, "ab");
        q.reset();
        check.same("kind", q.kind(0, 0), -1);
        check.same("value", q.value(0, 0), 0);
        check.same("letter", q.letter(0, 0, 0), -1);
        check.same("run", q.run(), -1);
    }

    private static void resetEmptiesHand() {
        check.sentence("2: All is as at first again: the row in hand");
        for (int type = 1; type <= 3; type++) {
            QueryRunner q = new QueryRunner();
            for (int i = 0; i < 8; i++) {
                q.truth(i, true);
            }
            Make.write(q, 3, WHOLE);
            q.reset();
            check.same("as type " + type, Make.hand(q, type * 11111111), ALL_NULL);
        }
        QueryRunner q = new QueryRunner();
        Make.write(q, 0, WHOLE);
        q.reset();
        check.yes("a text begins again", q.text(0, 'x', 1));
        check.same("one byte", Make.hand(q, 11111112), "x,null,null,null,null,null,null,null");
    }

    private static void resetOfNew() {
        check.sentence("2: All is as at first again: of a new object, twice");
        QueryRunner q = new QueryRunner();
        q.reset();
        q.reset();
        check.same("the hand", Make.hand(q, 33333333), ALL_NULL);
    }

    private static void tablesAreThree() {
        check.sentence("3: refused, if there are three");
        QueryRunner q = new QueryRunner();
        check.same("the first", q.table(1, 1), 0);
        check.same("the second", q.table(8, 11111111), 1);
        check.same("the third", q.table(1, 3), 2);
        check.same("a fourth", q.table(1, 1), -1);
        check.same("and again", q.table(1, 1), -1);
        check.same("the third is what it was", q.type(q.column(2, 0)), 3);
        check.same("no table 3", q.column(3, 0), -1);
    }

    private static void tableTooNarrowOrWide() {
        check.sentence("3: refused, if many is not 1 .. 8");
        int types = 1111111111;
        for (int many = 1; many <= 8; many++) {
            QueryRunner q = new QueryRunner();
            check.same("table(" + many + ")", q.table(many, types), 0);
            check.same("its last column", q.column(0, many - 1), 0);
            check.same("none behind it", q.column(0, many), -1);
        }
        for (int many : new int[] {0, 9, 10, -1, -8, Integer.MAX_VALUE, Integer.MIN_VALUE}) {
            QueryRunner q = new QueryRunner();
            check.same("table(" + many + ")", q.table(many, types), -1);
            check.same("the first is 0 still", q.table(1, 1), 0);
        }
    }

    /** Every place of every width, with every digit. */
    private static void tableDigitsOfNoType() {
        check.sentence("3: refused, if one of the lowest many digits is no type (1 .. 3)");
        for (int many = 1; many <= 8; many++) {
            int place = 1;
            for (int i = 0; i < many; i++) {
                for (int digit = 0; digit <= 9; digit++) {
                    int types = 11111111 + (digit - 1) * place;
                    boolean good = digit >= 1 && digit <= 3;
                    QueryRunner q = new QueryRunner();
                    check.same("table(" + many + ", " + types + ")", q.table(many, types), good ? 0 : -1);
                }
                place *= 10;
            }
        }
        check.same("no digit at all", new QueryRunner().table(1, 0), -1);
        check.same("a digit too few", new QueryRunner().table(8, 3333333), -1);
    }

    private static void tableHigherDigits() {
        check.sentence("3: one of the lowest many digits: the others are not looked at");
        int[][] good = {
            {1, 41}, {1, 901}, {1, 2147483643}, {2, 2147483611}, {8, 2011111111}, {8, 911111111}, {7, 1111111}
        };
        for (int[] one : good) {
            check.same("table(" + one[0] + ", " + one[1] + ")", new QueryRunner().table(one[0], one[1]), 0);
        }
        check.same("the greatest number ends in 7", new QueryRunner().table(1, Integer.MAX_VALUE), -1);
    }

    private static void tableTypesBelowZero() {
        check.sentence("3: refused, if types is below 0");
        for (int types : new int[] {-1, -2, -3, -11, -11111111, -2147483643, Integer.MIN_VALUE}) {
            check.same("table(1, " + types + ")", new QueryRunner().table(1, types), -1);
        }
        check.same("eight columns", new QueryRunner().table(8, -11111111), -1);
    }

    private static void tableLowestDigitFirst() {
        check.sentence("3: column 0 the lowest");
        QueryRunner q = new QueryRunner();
        q.table(8, 23123321);
        int[] due = {1, 2, 3, 3, 2, 1, 3, 2};
        for (int i = 0; i < 8; i++) {
            check.same("column " + i, q.type(q.column(0, i)), due[i]);
        }
    }

    private static void clearEveryCell() {
        check.sentence("4: All cells of the row in hand are NULL");
        Object[] values = {5, "abc", true};
        for (int type = 1; type <= 3; type++) {
            for (Object value : values) {
                QueryRunner q = new QueryRunner();
                for (int i = 0; i < 8; i++) {
                    Make.cell(q, i, value);
                }
                q.clear();
                check.same("after " + value, Make.hand(q, type * 11111111), ALL_NULL);
            }
        }
    }

    private static void clearOfNull() {
        check.sentence("4: All cells of the row in hand are NULL, as they were");
        QueryRunner q = new QueryRunner();
        q.clear();
        q.clear();
        check.same("the hand", Make.hand(q, 22222222), ALL_NULL);
    }

    private static void cellEveryColumn() {
        check.sentence("5: A cell of the row in hand is an INT: true");
        for (int i = 0; i < 8; i++) {
            QueryRunner q = new QueryRunner();
            check.yes("cell(" + i + ")", q.cell(i, 40 + i));
            check.same("the hand", Make.hand(q, 11111111), alone(i, String.valueOf(40 + i)));
        }
        QueryRunner narrow = Make.sized(1);
        check.yes("also where no table is so wide", narrow.cell(7, 1));
    }

    /** All cells NULL but for one. */
    private static String alone(int column, String value) {
        StringBuilder all = new StringBuilder();
        for (int i = 0; i < 8; i++) {
            all.append(i == 0 ? "" : ",").append(i == column ? value : "null");
        }
        return all.toString();
    }

    private static void cellOfNoColumn() {
        check.sentence("5: false if there is no such column");
        for (int column : NO_CELLS) {
            QueryRunner q = new QueryRunner();
            check.no("cell(" + column + ")", q.cell(column, 1));
            check.same("the hand", Make.hand(q, 22222222), ALL_NULL);
        }
    }

    private static void cellExtremes() {
        check.sentence("5: an INT (64 bits)");
        QueryRunner q = new QueryRunner();
        long[] numbers = {Long.MIN_VALUE, Long.MAX_VALUE, 0, -1, 1L << 32, -(1L << 32), Integer.MIN_VALUE, 1L << 62};
        StringBuilder due = new StringBuilder();
        for (int i = 0; i < 8; i++) {
            q.cell(i, numbers[i]);
            due.append(i == 0 ? "" : ",").append(numbers[i]);
        }
        check.same("the hand", Make.hand(q, 11111111), due.toString());
    }

    private static void cellInPlaceOfOthers() {
        check.sentence("5: A cell is an INT, whatever it was");
        QueryRunner q = new QueryRunner();
        q.truth(0, true);
        Make.write(q, 1, WHOLE);
        q.cell(2, 7);
        for (int i = 0; i < 3; i++) {
            check.yes("cell(" + i + ")", q.cell(i, -i));
        }
        check.same("the hand", Make.hand(q, 11111111), "0,-1,-2,null,null,null,null,null");
    }

    private static void truthEveryColumn() {
        check.sentence("6: A cell of the row in hand is a BOOL: true");
        for (int i = 0; i < 8; i++) {
            QueryRunner q = new QueryRunner();
            boolean value = i % 2 == 0;
            check.yes("truth(" + i + ")", q.truth(i, value));
            check.same("the hand", Make.hand(q, 33333333), alone(i, String.valueOf(value)));
        }
    }

    private static void truthOfNoColumn() {
        check.sentence("6: false if there is no such column");
        for (int column : NO_CELLS) {
            QueryRunner q = new QueryRunner();
            check.no("truth(" + column + ")", q.truth(column, true));
            check.same("the hand", Make.hand(q, 11111111), ALL_NULL);
        }
    }

    private static void truthInPlaceOfOthers() {
        check.sentence("6: A cell is a BOOL, whatever it was");
        QueryRunner q = new QueryRunner();
        q.truth(0, true);
        Make.write(q, 1, WHOLE);
        q.cell(2, 7);
        check.yes("false for true", q.truth(0, false));
        check.yes("true for a text", q.truth(1, true));
        check.yes("false for a number", q.truth(2, false));
        check.same("the hand", Make.hand(q, 33333333), "false,true,false,null,null,null,null,null");
    }

    private static void textEveryColumn() {
        check.sentence("7: come behind the TEXT of a cell of the row in hand: true");
        for (int i = 0; i < 8; i++) {
            QueryRunner q = new QueryRunner();
            check.yes("text(" + i + ")", q.text(i, 'p', 1));
            check.yes("text(" + i + ") again", q.text(i, 'q', 1));
            check.same("the hand", Make.hand(q, 22222222), alone(i, "pq"));
        }
    }

    private static void textHighestFirst() {
        check.sentence("7: The lowest n bytes, the highest of them first");
        String eight = "\u0080\u0001\u00ff\u0000\u007fxyz";
        for (int n = 0; n <= 8; n++) {
            QueryRunner q = new QueryRunner();
            check.yes("n " + n, q.text(0, 0x8001ff007f78797aL, n));
            check.same("n " + n, Make.hand(q, 11111112), alone(0, eight.substring(8 - n)));
        }
        QueryRunner q = new QueryRunner();
        check.yes("all bits", q.text(0, -1, 8));
        check.same("all bits", Make.hand(q, 11111112), alone(0, "\u00ff".repeat(8)));
    }

    private static void textBehindOthers() {
        check.sentence("7: (empty, if it was none)");
        QueryRunner q = new QueryRunner();
        q.cell(1, 7);
        q.truth(2, true);
        q.cell(3, Long.MIN_VALUE);
        check.yes("of NULL, no byte", q.text(0, 'a', 0));
        check.yes("of an INT, no byte", q.text(1, 'a', 0));
        check.yes("of a BOOL", q.text(2, 'b', 1));
        check.yes("of an INT", q.text(3, 0x6364, 2));
        Make.write(q, 4, WHOLE);
        q.cell(4, 1);
        check.yes("of an INT that was a full text", q.text(4, 'e', 1));
        check.same("the hand", Make.hand(q, 22222222), ",,b,cd,e,null,null,null");
    }

    private static void textOfNoColumn() {
        check.sentence("7: false if there is no such column");
        for (int column : NO_CELLS) {
            QueryRunner q = new QueryRunner();
            check.no("text(" + column + ")", q.text(column, 'a', 1));
            check.no("text(" + column + ") of no byte", q.text(column, 'a', 0));
            check.same("the hand", Make.hand(q, 11111111), ALL_NULL);
        }
    }

    private static void textOfWrongCount() {
        check.sentence("7: false if n is not 0 .. 8");
        for (int n : new int[] {-1, 9, 10, 31, Integer.MAX_VALUE, Integer.MIN_VALUE}) {
            QueryRunner q = new QueryRunner();
            q.cell(1, 6);
            q.text(2, 'c', 1);
            for (int column = 0; column < 3; column++) {
                check.no("n " + n, q.text(column, 'a', n));
            }
            check.same("the hand", Make.hand(q, 11111211), "null,6,c,null,null,null,null,null");
        }
    }

    private static void textUpTo31() {
        check.sentence("7: true up to 31");
        for (int n = 0; n <= 8; n++) {
            QueryRunner q = new QueryRunner();
            Make.write(q, 0, WHOLE.substring(0, 31 - n));
            check.yes(n + " bytes up to 31", q.text(0, 0x6161616161616161L, n));
            check.yes("none behind them", q.text(0, 'x', 0));
            check.same("the hand", Make.hand(q, 11111112), alone(0, WHOLE.substring(0, 31 - n) + "a".repeat(n)));
        }
    }

    private static void textNotBeyond31() {
        check.sentence("7: false if there would be more than 31");
        for (int n = 1; n <= 8; n++) {
            for (int length = 32 - n; length <= 31; length++) {
                QueryRunner q = new QueryRunner();
                String before = WHOLE.substring(0, length);
                Make.write(q, 0, before);
                check.no(n + " bytes behind " + length, q.text(0, 0x6161616161616161L, n));
                check.same("the hand", Make.hand(q, 11111112), alone(0, before));
            }
        }
    }

    private static void addCounts() {
        check.sentence("8: how many it has then");
        QueryRunner q = new QueryRunner();
        q.table(1, 1);
        q.table(1, 2);
        q.table(1, 3);
        for (int row = 1; row <= 40; row++) {
            check.same("row " + row + " of table 0", q.add(0), row);
            check.same("row " + row + " of table 2", q.add(2), row);
        }
        check.same("the first row of table 1", q.add(1), 1);
    }

    private static void addToNoTable() {
        check.sentence("8: refused, if there is no such table");
        QueryRunner q = new QueryRunner();
        for (int tables = 0; tables <= 3; tables++) {
            for (int none : new int[] {-1, tables, 3, Integer.MAX_VALUE, Integer.MIN_VALUE}) {
                check.same("add(" + none + ") of " + tables, q.add(none), -1);
            }
            q.table(1, 1);
        }
        check.same("table 2 is empty still", q.add(2), 1);
    }

    private static void addToFullTable() {
        check.sentence("8: refused, if it has 40");
        QueryRunner q = Make.sized(40, 39);
        q.cell(0, 99);
        check.same("a 41st", q.add(0), -1);
        check.same("again", q.add(0), -1);
        check.same("a 40th of the other", q.add(1), 40);
        check.same("a 41st of the other", q.add(1), -1);
        q.item(q.node(5, 0, 0));
        q.item(q.node(9, q.column(0, 0), 0));
        q.item(q.node(9, q.column(1, 0), 0));
        check.answers("what is there", q, 3, "1600,39,99");
    }

    /** Each cell of a table of eight columns, with each of the types that are not its. */
    private static void addOfOtherTypes() {
        check.sentence("8: refused, if a cell of its columns is neither NULL nor of its type");
        Object[] values = {null, 4, "t", false};
        for (int column = 0; column < 8; column++) {
            for (int type = 1; type <= 3; type++) {
                QueryRunner q = new QueryRunner();
                q.table(8, type * 11111111);
                for (int other = 1; other <= 3; other++) {
                    Make.cell(q, column, values[other]);
                    if (other != type) {
                        check.same("a " + other + " for a " + type + " in " + column, q.add(0), -1);
                    }
                }
                q.clear();
                Make.cell(q, column, values[type]);
                check.same("one of its type in " + column, q.add(0), 1);
            }
        }
    }

    private static void addOfNull() {
        check.sentence("8: a cell is NULL");
        QueryRunner q = new QueryRunner();
        q.table(3, 321);
        check.same("all NULL", q.add(0), 1);
        check.same("one NULL", Make.row(q, 0, null, "", false), 2);
        for (int i = 0; i < 3; i++) {
            q.item(q.column(0, i));
        }
        check.answers("the rows", q, 3, "null,null,null|null,,false");
    }

    private static void addLooksAtItsColumnsAlone() {
        check.sentence("8: a cell of its columns: those behind are not looked at");
        for (int many = 1; many < 8; many++) {
            QueryRunner q = new QueryRunner();
            q.table(many, 11111111);
            q.truth(many, true);
            q.text(7, 'a', many == 7 ? 0 : 1);
            check.same("a table of " + many, q.add(0), 1);
        }
    }

    private static void addLeavesTheHand() {
        check.sentence("8: The row in hand is the next row: it stays in hand, and the row stays as it came");
        QueryRunner q = new QueryRunner();
        q.table(2, 21);
        Make.row(q, 0, 1, "one");
        check.same("the same again", q.add(0), 2);
        q.text(1, '!', 1);
        q.cell(0, 2);
        q.add(0);
        q.clear();
        q.item(q.column(0, 0));
        q.item(q.column(0, 1));
        check.answers("the rows", q, 2, "1,one|1,one|2,one!");
    }
}
