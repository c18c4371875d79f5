/** The sentences of promises 19 to 22 that name a boundary case, a method each. */
public final class BoundsOfRunsTest {
    private static final Check check = new Check("BoundsOfRunsTest");
    private static final int[] FAR = {Integer.MAX_VALUE, Integer.MIN_VALUE};
    private static final String WHOLE = "\u00ff\u0080\u007f\u0000456789abcdefghijklmnopqrstu";

    public static void main(String[] args) {
        runWithoutTables();
        runWithoutItems();
        runOfALooseColumnBesideGroups();
        runOfALooseColumnBesideAnAggregate();
        runOfColumnsInAggregates();
        runOfColumnsInGroups();
        runWithoutGroupsOrAggregates();
        runOfLooseColumnsWithoutRows();
        runOf40000();
        runOfMoreThan40000();
        runOfMoreThan40000ThatDoNotCount();
        runOfEmptyTables();
        runOf2000ThatCount();
        runOf2001ThatCount();
        runOfTooManyWhateverBecomesOfThem();
        runCountsRowsOfTheAnswer();
        runKeeps64();
        runKeepsEightItemsOf64();
        runOfAllAtOnce();
        runRefusedKeepsTheAnswer();
        runReplacesTheAnswer();
        kindOfEach();
        kindOfNoRow();
        kindOfNoItem();
        kindOfAnswersWithoutRows();
        valueOfNumbers();
        valueOfTruths();
        valueOfTexts();
        valueOfNull();
        valueOfNone();
        letterOfEachByte();
        letterOutsideTheText();
        letterOfOtherKinds();
        letterOfNone();
        check.done();
    }

    private static void runWithoutTables() {
        check.sentence("19: -1, refused, if there are no tables");
        QueryRunner q = new QueryRunner();
        check.same("nor items", q.run(), -1);
        q.item(Make.constant(q, 1));
        check.same("a constant", q.run(), -1);
        q.item(q.node(5, 0, 0));
        check.same("an aggregate", q.run(), -1);
        q.table(1, 1);
        check.answers("with a table", q, 2, "1,0");
    }

    private static void runWithoutItems() {
        check.sentence("19: -1, refused, if there are no items");
        QueryRunner q = Make.sized(1);
        check.same("a table", q.run(), -1);
        q.group(q.column(0, 0));
        check.same("a group", q.run(), -1);
        q.item(0);
        check.answers("with an item", q, 1, "0");
    }

    private static QueryRunner pairs() {
        QueryRunner q = new QueryRunner();
        q.table(2, 11);
        Make.row(q, 0, 1, 5);
        Make.row(q, 0, 1, 6);
        return q;
    }

    private static void runOfALooseColumnBesideGroups() {
        check.sentence("19: -3, refused, if there are groups and an item has a column in no aggregate and no group");
        QueryRunner q = pairs();
        q.item(q.column(0, 1));
        check.same("no groups", q.run(), 2);
        q.group(q.column(0, 0));
        check.same("another column's group", q.run(), -3);
        q.group(q.column(0, 1));
        check.answers("its group", q, 1, "5|6");
        QueryRunner r = pairs();
        r.group(r.column(0, 0));
        int sum = r.node(11, r.column(0, 0), r.column(0, 1));
        r.item(r.node(10, sum, 0));
        check.same("further down", r.run(), -3);
        QueryRunner s = Make.sized(1, 1);
        s.group(s.column(0, 0));
        s.item(s.column(1, 0));
        check.same("the same column of another table", s.run(), -3);
    }

    private static void runOfALooseColumnBesideAnAggregate() {
        check.sentence("19: -3, refused, if there is an aggregate and an item has a column in no aggregate and no group");
        QueryRunner q = pairs();
        q.item(q.column(0, 0));
        q.item(q.node(5, 0, 0));
        check.same("in another item", q.run(), -3);
        QueryRunner r = pairs();
        r.item(r.node(11, r.node(7, r.column(0, 0), 0), r.column(0, 0)));
        check.same("in the same item", r.run(), -3);
        QueryRunner s = pairs();
        for (int i = 0; i < 7; i++) {
            s.item(s.column(0, i % 2));
        }
        check.same("seven columns", s.run(), 2);
        s.item(s.node(23, s.node(8, s.column(0, 0), 0), 0));
        check.same("the eighth item has one", s.run(), -3);
        s.group(0);
        check.same("a group of one of two", s.run(), -3);
        s.group(1);
        check.same("groups of both", s.run(), 2);
    }

    private static void runOfColumnsInAggregates() {
        check.sentence("19: a column that is in an aggregate");
        QueryRunner q = pairs();
        int ten = Make.constant(q, 10);
        int inner = q.column(0, 1);
        q.item(q.node(7, q.node(13, inner, ten), 0));
        check.answers("alone", q, 1, "110");
        q.group(q.column(0, 0));
        check.answers("beside a group", q, 1, "110");
        q.item(inner);
        check.same("the same node as an item of its own", q.run(), -3);
    }

    private static void runOfColumnsInGroups() {
        check.sentence("19: a column that is in a group, by whichever node");
        QueryRunner q = pairs();
        q.group(q.column(0, 1));
        q.item(q.column(0, 1));
        q.item(q.node(10, q.column(0, 1), 0));
        q.item(q.node(5, 0, 0));
        check.answers("other nodes of it", q, 3, "5,-5,1|6,-6,1");
        q.item(Make.constant(q, "c"));
        check.answers("constants are no columns", q, 4, "5,-5,1,c|6,-6,1,c");
    }

    private static void runWithoutGroupsOrAggregates() {
        check.sentence("19: if there are groups or an aggregate: not if there are none in the query");
        QueryRunner q = pairs();
        q.node(5, 0, 0);
        q.node(7, q.column(0, 0), 0);
        q.item(q.column(0, 1));
        check.answers("aggregates in no item", q, 1, "5|6");
        q.where(q.node(17, q.column(0, 1), Make.constant(q, 6)));
        check.answers("a column in the condition", q, 1, "6");
        QueryRunner r = pairs();
        r.where(r.node(17, r.column(0, 1), Make.constant(r, 6)));
        r.item(r.node(5, 0, 0));
        check.answers("a column in the condition beside an aggregate", r, 1, "1");
    }

    private static void runOfLooseColumnsWithoutRows() {
        check.sentence("19: -3, also if no combination counts, or too many would");
        QueryRunner q = Make.sized(0);
        q.item(q.column(0, 0));
        q.item(q.node(5, 0, 0));
        check.same("no rows", q.run(), -3);
        q.limit(0);
        check.same("no rows wanted", q.run(), -3);
        QueryRunner r = Make.sized(40, 40, 40);
        check.same("no items before all", r.run(), -1);
        r.item(r.column(0, 0));
        check.same("too many", r.run(), -2);
        r.item(r.node(5, 0, 0));
        check.same("loose before too many", r.run(), -3);
    }

    private static int equal(QueryRunner q, int table, int number) {
        return q.node(17, q.column(table, 0), Make.constant(q, number));
    }

    private static void runOf40000() {
        check.sentence("19: the numbers of rows multiplied are 40000");
        QueryRunner q = Make.sized(40, 40, 25);
        q.item(q.node(5, 0, 0));
        q.item(q.node(7, q.column(1, 0), 0));
        q.where(equal(q, 2, 24));
        check.answers("40 * 40 * 25", q, 2, "1600,31200");
        QueryRunner r = Make.sized(25, 40, 40);
        r.item(r.node(5, 0, 0));
        r.where(equal(r, 0, 24));
        check.answers("25 * 40 * 40", r, 1, "1600");
    }

    private static void runOfMoreThan40000() {
        check.sentence("19: -2, refused, if the numbers of rows of the tables multiplied are more than 40000");
        int[][] sizes = {{39, 38, 27}, {27, 39, 38}, {38, 27, 39}, {40, 40, 26}, {40, 40, 40}};
        for (int[] size : sizes) {
            QueryRunner q = Make.sized(size);
            q.item(q.node(5, 0, 0));
            q.where(equal(q, 0, 0));
            check.same(size[0] + " * " + size[1] + " * " + size[2], q.run(), -2);
        }
        QueryRunner q = Make.sized(39, 38, 26);
        q.item(q.node(5, 0, 0));
        q.where(equal(q, 0, 0));
        check.answers("39 * 38 * 26", q, 1, "988");
    }

    private static void runOfMoreThan40000ThatDoNotCount() {
        check.sentence("19: -2, if multiplied they are more than 40000, also if few count");
        QueryRunner q = Make.sized(40, 40, 26);
        q.item(q.node(5, 0, 0));
        q.where(Make.constant(q, false));
        check.same("none counts", q.run(), -2);
        q.where(Make.constant(q, null));
        check.same("NULL", q.run(), -2);
        q.limit(0);
        check.same("none wanted", q.run(), -2);
    }

    private static void runOfEmptyTables() {
        check.sentence("19: (0 counts as 1)");
        int[][] sizes = {{40, 40, 0}, {0, 40, 40}, {40, 0, 40}, {0, 0, 0}, {0}, {0, 40}};
        for (int[] size : sizes) {
            QueryRunner q = Make.sized(size);
            q.item(q.column(0, 0));
            check.same("rows of no combination", q.run(), 0);
            QueryRunner r = Make.sized(size);
            r.item(r.node(5, 0, 0));
            check.answers("one of none", r, 1, "0");
        }
    }

    private static void runOf2000ThatCount() {
        check.sentence("19: 2000 combinations count");
        int[][] sizes = {{40, 25, 2}, {2, 25, 40}, {25, 40, 2}, {20, 20, 5}};
        for (int[] size : sizes) {
            QueryRunner q = Make.sized(size);
            q.item(q.node(5, 0, 0));
            check.answers("all of 2000", q, 1, "2000");
        }
        QueryRunner r = Make.sized(40, 25, 3);
        r.item(r.column(0, 0));
        r.where(r.node(18, r.column(2, 0), Make.constant(r, 1)));
        check.same("2000 of 3000", r.run(), 2000);
        check.same("the last kept", r.value(63, 0), 1);
    }

    /** 2000 by a condition over 2080 combinations, and then one more: the first of the rest, or the last. */
    private static void runOf2001ThatCount() {
        check.sentence("19: -2, refused, if more than 2000 combinations count");
        for (int end = 0; end <= 1; end++) {
            QueryRunner q = Make.sized(40, 26, 2);
            q.item(q.node(5, 0, 0));
            int most = q.node(18, q.column(1, 0), Make.constant(q, 25 * end));
            q.where(most);
            check.answers("2000 of 2080", q, 1, "2000");
            int first = q.node(26, equal(q, 0, 39 * end), equal(q, 2, end));
            q.where(q.node(27, most, first));
            check.same("2001 of 2080", q.run(), -2);
        }
        QueryRunner q = Make.sized(40, 26, 2);
        q.item(q.column(0, 0));
        check.same("2080 without a condition", q.run(), -2);
        QueryRunner r = Make.sized(29, 23, 3);
        r.item(r.column(0, 0));
        check.same("2001 without a condition", r.run(), -2);
    }

    private static void runOfTooManyWhateverBecomesOfThem() {
        check.sentence("19: -2, if more than 2000 combinations count, into however few rows");
        QueryRunner q = Make.sized(29, 23, 3);
        q.item(q.node(5, 0, 0));
        check.same("one row", q.run(), -2);
        q.group(q.column(2, 0));
        check.same("three groups", q.run(), -2);
        q.limit(1);
        check.same("a limit", q.run(), -2);
        q.distinct(true);
        check.same("distinct", q.run(), -2);
        q.order(0, true);
        check.same("ordered", q.run(), -2);
    }

    private static void runCountsRowsOfTheAnswer() {
        check.sentence("19: how many rows the answer has");
        QueryRunner q = Make.sized(40, 40);
        q.item(q.column(0, 0));
        check.same("all", q.run(), 1600);
        q.limit(1599);
        check.same("but one", q.run(), 1599);
        q.distinct(true);
        check.same("those that differ", q.run(), 40);
        q.limit(39);
        check.same("but one of them", q.run(), 39);
        q.where(Make.constant(q, false));
        check.same("none", q.run(), 0);
    }

    private static void runKeeps64() {
        check.sentence("19: the first 64 of them are kept");
        for (int rows = 62; rows <= 67; rows++) {
            QueryRunner q = Make.sized(40, 2);
            q.item(q.node(11, q.node(13, q.column(0, 0), Make.constant(q, 2)), q.column(1, 0)));
            q.limit(rows);
            check.same("rows", q.run(), rows);
            for (int row = 60; row <= 67; row++) {
                boolean kept = row < 64 && row < rows;
                check.same("kind of row " + row + " of " + rows, q.kind(row, 0), kept ? 1 : -1);
                check.same("value of row " + row + " of " + rows, q.value(row, 0), kept ? row : 0);
            }
        }
        QueryRunner q = Make.sized(40, 2);
        q.item(q.column(0, 0));
        q.order(0, true);
        check.same("all 80", q.run(), 80);
        check.same("the first of the ordered ones", q.value(0, 0), 39);
        check.same("the 64th of the ordered ones", q.value(63, 0), 8);
    }

    private static void runKeepsEightItemsOf64() {
        check.sentence("19: the first 64 of them are kept, with at most 8 items");
        for (int size : new int[] {32, 33}) {
            QueryRunner q = Make.sized(2, size);
            for (int i = 0; i < 8; i++) {
                q.item(i % 2 == 0 ? q.column(0, 0) : q.column(1, 0));
            }
            check.same("rows", q.run(), 2 * size);
            check.same("row 63, item 6", q.value(63, 6), 1);
            check.same("row 63, item 7", q.value(63, 7), 63 - size);
            check.same("row 62, item 7", q.value(62, 7), 62 - size);
            check.same("row 63, item 8", q.kind(63, 8), -1);
            check.same("row 64, item 7", q.kind(64, 7), -1);
        }
    }

    /** 16, 32 and 2000 rows of eight items: distinct, four groups and four orders together. */
    private static void runOfAllAtOnce() {
        check.sentence("19: Runs the query, with all that it may have at once");
        int[][] sizes = {{4, 2, 2}, {4, 4, 2}, {40, 25, 2}};
        for (int[] size : sizes) {
            QueryRunner q = Make.sized(size);
            for (int i = 0; i < 8; i++) {
                q.item(q.column(i % 3, 0));
            }
            for (int i = 0; i < 4; i++) {
                q.group(i);
                q.order(i, true);
            }
            q.distinct(true);
            int rows = size[0] * size[1] * size[2];
            check.same("all differ", q.run(), rows);
            for (int item = 0; item < 8; item++) {
                check.same("the greatest first", q.value(0, item), size[item % 3] - 1);
            }
            check.same("the last kept", q.value(Math.min(rows, 64) - 1, 2), 0);
        }
    }

    private static void runRefusedKeepsTheAnswer() {
        check.sentence("19: refused: the answer is as before");
        QueryRunner q = Make.sized(40, 40, 2);
        q.item(Make.constant(q, "kept"));
        q.where(q.node(26, equal(q, 0, 0), equal(q, 1, 0)));
        check.answers("two rows", q, 1, "kept|kept");
        q.where(-1);
        check.same("3200 count", q.run(), -2);
        check.same("after -2", Make.answers(q, 2, 1), "kept|kept");
        check.same("no third row after -2", q.kind(2, 0), -1);
        q.group(q.column(0, 0));
        q.item(q.column(1, 0));
        check.same("loose", q.run(), -3);
        check.same("after -3", Make.answers(q, 2, 1), "kept|kept");
        check.same("no third row after -3", q.kind(2, 0), -1);
    }

    private static void runReplacesTheAnswer() {
        check.sentence("19: Runs the query: the answer is the last run's");
        QueryRunner q = Make.sized(3);
        q.item(q.column(0, 0));
        check.answers("three rows", q, 1, "0|1|2");
        q.item(Make.constant(q, "x"));
        q.limit(1);
        check.answers("one row of two items", q, 2, "0,x");
        check.same("no second row", q.kind(1, 0), -1);
        check.same("no value in it", q.value(1, 0), 0);
        q.where(Make.constant(q, null));
        check.same("no row", q.run(), 0);
        check.same("none to read", q.kind(0, 0), -1);
    }

    /** Items: NULL, -5, a text of 31 bytes, true, false, an empty text, the least and the greatest number. */
    private static QueryRunner kinds() {
        QueryRunner q = Make.sized(2);
        Object[] values = {null, -5, WHOLE, true, false, "", Long.MIN_VALUE, Long.MAX_VALUE};
        for (Object value : values) {
            q.item(Make.constant(q, value));
        }
        q.run();
        return q;
    }

    private static void kindOfEach() {
        check.sentence("20: 0 NULL, 1 an INT, 2 a TEXT, 3 a BOOL");
        int[] due = {0, 1, 2, 3, 3, 2, 1, 1};
        QueryRunner q = kinds();
        for (int row = 0; row < 2; row++) {
            for (int item = 0; item < 8; item++) {
                check.same("kind(" + row + ", " + item + ")", q.kind(row, item), due[item]);
            }
        }
    }

    private static void kindOfNoRow() {
        check.sentence("20: -1 if there is none such: no row");
        QueryRunner q = kinds();
        for (int row : new int[] {-1, 2, 3, 63, 64, FAR[0], FAR[1]}) {
            for (int item = 0; item < 8; item++) {
                check.same("kind(" + row + ", " + item + ")", q.kind(row, item), -1);
            }
        }
    }

    private static void kindOfNoItem() {
        check.sentence("20: -1 if there is none such: no item");
        QueryRunner q = kinds();
        for (int item : new int[] {-1, 8, 9, FAR[0], FAR[1]}) {
            check.same("kind(0, " + item + ")", q.kind(0, item), -1);
            check.same("kind(1, " + item + ")", q.kind(1, item), -1);
        }
        for (int items = 1; items < 8; items++) {
            QueryRunner r = Make.sized(2);
            for (int i = 0; i < items; i++) {
                r.item(Make.constant(r, i));
            }
            r.run();
            check.same("the last of " + items, r.kind(0, items - 1), 1);
            check.same("none behind it", r.kind(0, items), -1);
            check.same("none before the next row", r.kind(1, -1), -1);
        }
    }

    private static void kindOfAnswersWithoutRows() {
        check.sentence("20: -1 if there is none such: no answer, or an empty one");
        check.same("new", new QueryRunner().kind(0, 0), -1);
        QueryRunner q = Make.sized(0);
        q.item(q.column(0, 0));
        check.same("before the run", q.kind(0, 0), -1);
        q.run();
        check.same("an empty answer", q.kind(0, 0), -1);
    }

    private static void valueOfNumbers() {
        check.sentence("21: The INT");
        QueryRunner q = kinds();
        check.same("-5", q.value(1, 1), -5);
        check.same("the least", q.value(0, 6), Long.MIN_VALUE);
        check.same("the greatest", q.value(0, 7), Long.MAX_VALUE);
    }

    private static void valueOfTruths() {
        check.sentence("21: 1 or 0 for a BOOL");
        QueryRunner q = kinds();
        check.same("true", q.value(0, 3), 1);
        check.same("false", q.value(0, 4), 0);
    }

    private static void valueOfTexts() {
        check.sentence("21: how many bytes of a TEXT");
        QueryRunner q = kinds();
        check.same("31", q.value(0, 2), 31);
        check.same("none", q.value(0, 5), 0);
        for (int length = 1; length <= 31; length++) {
            QueryRunner r = Make.sized(1);
            r.item(Make.constant(r, "\0".repeat(length)));
            r.run();
            check.same("zeros", r.value(0, 0), length);
        }
    }

    private static void valueOfNull() {
        check.sentence("21: 0 for NULL");
        check.same("a constant", kinds().value(0, 0), 0);
        QueryRunner q = new QueryRunner();
        q.table(1, 1);
        Make.row(q, 0, 77);
        Make.row(q, 0);
        q.item(q.column(0, 0));
        q.run();
        check.same("behind a number", q.value(1, 0), 0);
        q.where(q.node(23, q.column(0, 0), 0));
        q.run();
        check.same("where a number was", q.value(0, 0), 0);
    }

    private static void valueOfNone() {
        check.sentence("21: 0 for none such");
        QueryRunner q = kinds();
        for (int none : new int[] {-1, 2, 3, 63, 64, FAR[0], FAR[1]}) {
            check.same("row " + none, q.value(none, 1), 0);
        }
        for (int none : new int[] {-1, 8, 9, FAR[0], FAR[1]}) {
            check.same("item " + none, q.value(0, none), 0);
            check.same("item " + none + " of row 1", q.value(1, none), 0);
        }
        check.same("new", new QueryRunner().value(0, 0), 0);
    }

    private static void letterOfEachByte() {
        check.sentence("22: Byte i, 0 .. 255, of the TEXT");
        QueryRunner q = kinds();
        for (int i = 0; i < 31; i++) {
            check.same("byte " + i, q.letter(1, 2, i), WHOLE.charAt(i));
        }
        for (int first = 0; first < 256; first += 8) {
            QueryRunner r = Make.sized(1);
            long bytes = 0;
            for (int i = 0; i < 8; i++) {
                bytes = bytes << 8 | (first + i);
            }
            r.clear();
            r.text(0, bytes, 8);
            r.item(r.constant());
            r.run();
            for (int i = 0; i < 8; i++) {
                check.same("each byte", r.letter(0, 0, i), first + i);
            }
        }
    }

    private static void letterOutsideTheText() {
        check.sentence("22: -1 if there is none: no such byte");
        QueryRunner q = kinds();
        for (int i : new int[] {-1, 31, 32, 33, 255, FAR[0], FAR[1]}) {
            check.same("byte " + i + " of 31", q.letter(0, 2, i), -1);
        }
        for (int i : new int[] {-1, 0, 1, 30, 31}) {
            check.same("byte " + i + " of none", q.letter(0, 5, i), -1);
        }
        for (int length = 1; length <= 30; length++) {
            QueryRunner r = Make.sized(1);
            r.item(Make.constant(r, WHOLE.substring(0, length)));
            r.run();
            check.same("the last of " + length, r.letter(0, 0, length - 1), WHOLE.charAt(length - 1));
            check.same("behind " + length, r.letter(0, 0, length), -1);
        }
    }

    private static void letterOfOtherKinds() {
        check.sentence("22: -1 if there is none: no TEXT");
        QueryRunner q = kinds();
        for (int item : new int[] {0, 1, 3, 4, 6, 7}) {
            check.same("item " + item, q.letter(0, item, 0), -1);
        }
        QueryRunner r = new QueryRunner();
        r.table(1, 2);
        Make.row(r, 0, "ab");
        Make.row(r, 0);
        r.item(r.column(0, 0));
        r.run();
        check.same("NULL behind a text", r.letter(1, 0, 0), -1);
        r.order(0, true);
        r.run();
        check.same("the text behind NULL", r.letter(1, 0, 1), 'b');
        check.same("NULL where a text was", r.letter(0, 0, 0), -1);
    }

    private static void letterOfNone() {
        check.sentence("22: -1 if there is none: no such row or item");
        QueryRunner q = kinds();
        for (int none : new int[] {-1, 2, 63, 64, FAR[0], FAR[1]}) {
            check.same("row " + none, q.letter(none, 2, 0), -1);
        }
        for (int none : new int[] {-1, 8, 10, FAR[0], FAR[1]}) {
            check.same("item " + none, q.letter(0, none, 0), -1);
            check.same("item " + none + " of row 1", q.letter(1, none, 0), -1);
        }
        check.same("new", new QueryRunner().letter(0, 0, 0), -1);
    }
}
