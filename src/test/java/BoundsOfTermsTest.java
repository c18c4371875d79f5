/** The sentences of "Terms" and its two blocks that name a boundary case, a method each. */
public final class BoundsOfTermsTest {
    private static final Check check = new Check("BoundsOfTermsTest");
    private static final long MIN = Long.MIN_VALUE;
    private static final long MAX = Long.MAX_VALUE;
    private static final String WHOLE = "0123456789abcdefghijklmnopqrstu";

    public static void main(String[] args) {
        callsUpTo512();
        rowsAsTheyCame();
        numbersWrap();
        sumsWrap();
        sumsCountWhatIsNotNull();
        rowsCount();
        presentOnesCount();
        extremesOfNumbers();
        extremesOfTexts();
        aggregatesOfNull();
        aggregatesOfEachGroup();
        nullInReckoning();
        divisorZero();
        quotientTowardsZero();
        remainderOfQuotient();
        joinedCut();
        joinedNull();
        textsByBytes();
        textBeginningsFirst();
        falseBeforeTrue();
        numbersWithSign();
        comparisonsOfNull();
        isNullOfAny();
        notOfNull();
        andOfNull();
        orOfNull();
        tablesInOrder();
        combinationsOfOneTable();
        conditionTrueAlone();
        groupsNullLikeNull();
        groupsTellValuesApart();
        groupsInOrderOfTheFirst();
        groupsOfManyValues();
        oneRowWithoutGroups();
        oneRowAfterEach();
        noRowOfGroupsOfNothing();
        eachMakesOne();
        columnOfTheFirst();
        distinctOfAllItems();
        distinctNull();
        distinctTellsValuesApart();
        distinctKeepsTheEarlier();
        distinctOfManyRows();
        ordersOneAfterTheOther();
        ordersNullBehind();
        ordersNullFirstWhenFalling();
        ordersLeaveLikeOnes();
        limitBehindDistinctAndOrders();
        check.done();
    }

    /** What a node of a kind over two constants is, or over one if it has no b. */
    private static String ofConstants(int kind, Object a, Object b) {
        QueryRunner q = Make.sized(1);
        int left = Make.constant(q, a);
        q.item(q.node(kind, left, Make.constant(q, b)));
        return Make.answers(q, q.run(), 1);
    }

    /** The same over columns, in a row among others: nothing of those may be left in it. */
    private static String ofColumns(int kind, Object a, Object b) {
        QueryRunner q = new QueryRunner();
        Object[] others = {null, 3, "other", true};
        int typeA = typeOf(kind, a, b);
        int typeB = typeOf(kind, b, a);
        q.table(2, typeA + 10 * typeB);
        Make.row(q, 0, others[typeA], others[typeB]);
        Make.row(q, 0, a, b);
        Make.row(q, 0, others[typeA], others[typeB]);
        int left = q.column(0, 0);
        q.item(q.node(kind, left, q.column(0, 1)));
        q.run();
        return String.valueOf(Make.answer(q, 1, 0));
    }

    /** The type of a value; of NULL it is what the kind asks for, or that of the other part. */
    private static int typeOf(int kind, Object value, Object other) {
        Object told = value == null ? other : value;
        if (told == null) {
            return kind == 16 ? 2 : kind >= 25 ? 3 : 1;
        }
        return told instanceof String ? 2 : told instanceof Boolean ? 3 : 1;
    }

    private static void is(int kind, Object a, Object b, Object due) {
        String what = "kind " + kind + " of " + a + " and " + b;
        check.same(what, ofConstants(kind, a, b), String.valueOf(due));
        check.same(what + " in columns", ofColumns(kind, a, b), String.valueOf(due));
    }

    private static QueryRunner column(int type, Object... values) {
        QueryRunner q = new QueryRunner();
        q.table(1, type);
        for (Object value : values) {
            Make.row(q, 0, value);
        }
        return q;
    }

    /** What an aggregate of a column with these values is. */
    private static void total(int kind, int type, Object due, Object... values) {
        QueryRunner q = column(type, values);
        q.item(q.node(kind, q.column(0, 0), 0));
        check.answers("kind " + kind + " of " + values.length, q, 1, String.valueOf(due));
    }

    private static void callsUpTo512() {
        check.sentence("An object is used for at most 512 calls");
        QueryRunner q = new QueryRunner();
        q.table(1, 1);
        for (int calls = 1; calls < 507; calls++) {
            q.cell(0, calls);
        }
        check.same("call 508", q.add(0), 1);
        check.same("call 509", q.column(0, 0), 0);
        check.same("call 510", q.item(0), 0);
        check.same("call 511", q.run(), 1);
        check.same("call 512", q.value(0, 0), 506);
    }

    private static void rowsAsTheyCame() {
        check.sentence("at most 40 ROWS, in the order in which they came");
        for (int table = 0; table < 3; table++) {
            QueryRunner q = Make.sized(table == 0 ? 40 : 1, table == 1 ? 40 : 1, table == 2 ? 40 : 1);
            q.item(q.column(table, 0));
            check.same("rows", q.run(), 40);
            for (int row = 0; row < 40; row++) {
                check.same("row " + row + " of table " + table, q.value(row, 0), row);
            }
        }
    }

    private static void numbersWrap() {
        check.sentence("INT (64 bits; all wraps)");
        is(10, MIN, null, MIN);
        is(10, MAX, null, -MAX);
        is(11, MAX, 1, MIN);
        is(11, MIN, -1, MAX);
        is(11, MIN, MIN, 0);
        is(12, MIN, 1, MAX);
        is(12, MAX, -1, MIN);
        is(12, 0, MIN, MIN);
        is(13, MAX, MAX, 1);
        is(13, MIN, -1, MIN);
        is(13, 1L << 32, 1L << 32, 0);
        is(13, MAX, 2, -2);
        is(14, MIN, -1, MIN);
        is(15, MIN, -1, 0);
    }

    private static void sumsWrap() {
        check.sentence("7 the sum of a: it wraps");
        total(7, 1, MIN, MAX, 1);
        total(7, 1, MAX, MIN, -1);
        total(7, 1, 5, MAX, 1, MIN, 5);
        total(7, 1, 0, MIN, MIN);
    }

    private static void sumsCountWhatIsNotNull() {
        check.sentence("of 7, 8, 9 rows where a is NULL don't count");
        total(7, 1, 12, null, 5, null, 7, null);
        total(8, 1, 5, null, 5, null, 7, null);
        total(9, 1, -3, null, -5, null, -3, null);
        total(8, 2, "a", null, "b", "a", null);
        total(9, 2, "b", null, "b", "a", null);
        total(9, 2, "", null, "");
        total(7, 1, 0, 0, null);
    }

    private static void rowsCount() {
        check.sentence("5 how many rows");
        total(5, 1, 0);
        total(5, 1, 1, (Object) null);
        total(5, 1, 3, null, 4, 4);
    }

    private static void presentOnesCount() {
        check.sentence("6 of how many a is not NULL");
        total(6, 1, 0);
        total(6, 1, 0, (Object) null);
        total(6, 1, 2, null, 0, 0);
        total(6, 2, 1, null, "", null);
        total(6, 3, 1, null, false);
    }

    private static void extremesOfNumbers() {
        check.sentence("8 the least a, 9 the greatest a, of numbers");
        total(8, 1, MIN, 0, MAX, MIN, -1);
        total(9, 1, MAX, 0, MAX, MIN, -1);
        total(8, 1, -1, 1, -1, 0);
        total(9, 1, -1, -2, -1, -3);
        total(8, 1, 7, 7);
        total(9, 1, 7, 7, 7);
    }

    private static void extremesOfTexts() {
        check.sentence("8 the least a, 9 the greatest a, of texts");
        total(8, 2, "", "a", "", "\0");
        total(9, 2, "\u00ff", "a", "\u00ff", "\u0080", "zz");
        total(8, 2, "a", "ab", "a", "a\0");
        total(9, 2, "ab", "a", "ab", "a\0");
        total(9, 2, WHOLE, WHOLE.substring(0, 30), WHOLE, "");
    }

    private static void aggregatesOfNull() {
        check.sentence("and NULL if none does");
        for (int kind = 7; kind <= 9; kind++) {
            total(kind, 1, null);
            total(kind, 1, null, (Object) null);
            total(kind, 1, null, null, null, null);
        }
        for (int kind = 8; kind <= 9; kind++) {
            total(kind, 2, null);
            total(kind, 2, null, null, null);
            QueryRunner q = Make.sized(2);
            q.item(q.node(kind, Make.constant(q, null), 0));
            check.answers("of NULL itself", q, 1, "null");
        }
    }

    /** The second group has NULL alone: nothing of the first may be left in it. */
    private static void aggregatesOfEachGroup() {
        check.sentence("NULL if none does, in each group by itself");
        QueryRunner q = new QueryRunner();
        q.table(2, 11);
        Make.row(q, 0, 1, 5);
        Make.row(q, 0, 2, null);
        Make.row(q, 0, 1, 6);
        Make.row(q, 0, 3, -1);
        q.group(q.column(0, 0));
        q.item(q.node(5, 0, 0));
        for (int kind = 6; kind <= 9; kind++) {
            q.item(q.node(kind, q.column(0, 1), 0));
        }
        check.answers("three groups", q, 5, "2,2,11,5,6|1,0,null,null,null|1,1,-1,-1,-1");
    }

    private static void nullInReckoning() {
        check.sentence("10 .. 15: NULL if one is NULL");
        is(10, null, 1, null);
        for (int kind = 11; kind <= 15; kind++) {
            is(kind, null, 1, null);
            is(kind, 1, null, null);
            is(kind, null, null, null);
            is(kind, null, 0, null);
        }
    }

    private static void divisorZero() {
        check.sentence("NULL if b is 0 in 14 and 15");
        for (long a : new long[] {0, 1, -1, MIN, MAX}) {
            is(14, a, 0, null);
            is(15, a, 0, null);
            is(11, a, 0, a);
            is(13, a, 0, 0);
        }
        is(14, 0, 5, 0);
        is(15, 0, 5, 0);
    }

    private static void quotientTowardsZero() {
        check.sentence("/ goes towards 0");
        is(14, 7, 2, 3);
        is(14, -7, 2, -3);
        is(14, 7, -2, -3);
        is(14, -7, -2, 3);
        is(14, -1, 2, 0);
        is(14, MAX, MIN, 0);
        is(14, MIN, MAX, -1);
    }

    private static void remainderOfQuotient() {
        check.sentence("a % b is a less a / b * b");
        is(15, 7, 3, 1);
        is(15, -7, 3, -1);
        is(15, 7, -3, 1);
        is(15, -7, -3, -1);
        is(15, 6, 3, 0);
        is(15, MIN, MAX, -1);
        is(15, MAX, MIN, MAX);
    }

    private static void joinedCut() {
        check.sentence("16 a with b behind it, cut to 31 bytes");
        for (int length = 0; length <= 31; length++) {
            String a = WHOLE.substring(0, length);
            for (int more : new int[] {30 - length, 31 - length, 32 - length, 31}) {
                if (more >= 0 && more <= 31) {
                    String b = "\u00ff" + WHOLE.substring(1);
                    String both = a + b.substring(0, more);
                    is(16, a, b.substring(0, more), both.substring(0, Math.min(31, both.length())));
                }
            }
        }
        is(16, "", "", "");
        is(16, "a\0", "\0b", "a\0\0b");
    }

    private static void joinedNull() {
        check.sentence("16: NULL if one is NULL");
        is(16, null, "a", null);
        is(16, "a", null, null);
        is(16, null, null, null);
        is(16, "", null, null);
    }

    /** All six comparisons of what is less and more, both ways round, and of each with itself. */
    private static void inOrder(Object less, Object more) {
        boolean[] rising = {false, true, true, true, false, false};
        boolean[] falling = {false, true, false, false, true, true};
        boolean[] like = {true, false, false, true, false, true};
        for (int kind = 17; kind <= 22; kind++) {
            is(kind, less, more, rising[kind - 17]);
            is(kind, more, less, falling[kind - 17]);
            is(kind, less, less, like[kind - 17]);
            is(kind, more, more, like[kind - 17]);
        }
    }

    private static void textsByBytes() {
        check.sentence("TEXTs by bytes (without sign)");
        inOrder("\u007f", "\u0080");
        inOrder("a", "\u00ff");
        inOrder("\0", "\u0001");
        inOrder("ab", "b");
        for (int at = 0; at < 31; at++) {
            String before = WHOLE.substring(0, at);
            inOrder(before + "\u007f" + "z".repeat(30 - at), before + "\u0080" + "a".repeat(30 - at));
        }
    }

    private static void textBeginningsFirst() {
        check.sentence("a beginning before what goes on");
        inOrder("", "\0");
        inOrder("a", "a\0");
        for (int length = 0; length < 31; length++) {
            inOrder(WHOLE.substring(0, length), WHOLE.substring(0, length + 1));
            inOrder(WHOLE.substring(0, length), WHOLE.substring(0, length) + "\0");
        }
    }

    private static void falseBeforeTrue() {
        check.sentence("false before true");
        inOrder(false, true);
    }

    private static void numbersWithSign() {
        check.sentence("a < b of INTs");
        inOrder(-1L, 0L);
        inOrder(MIN, MAX);
        inOrder(MIN, 0L);
        inOrder(MAX - 1, MAX);
        inOrder(-(1L << 32), 1L);
    }

    private static void comparisonsOfNull() {
        check.sentence("17 .. 22: NULL if one is NULL");
        for (int kind = 17; kind <= 22; kind++) {
            for (Object value : new Object[] {0, "", false, null}) {
                is(kind, value, null, null);
                is(kind, null, value, null);
            }
        }
    }

    private static void isNullOfAny() {
        check.sentence("23 a is NULL, 24 a is not NULL, of any");
        for (Object value : new Object[] {0, "", false, MIN, "a", true}) {
            is(23, value, null, false);
            is(24, value, null, true);
        }
        is(23, null, 1, true);
        is(24, null, 1, false);
    }

    private static void notOfNull() {
        check.sentence("25 not a: with a NULL it is NULL");
        is(25, null, null, null);
        is(25, true, null, false);
        is(25, false, null, true);
    }

    private static void andOfNull() {
        check.sentence("26: NULL and false is false, otherwise with a NULL it is NULL");
        is(26, null, false, false);
        is(26, false, null, false);
        is(26, null, true, null);
        is(26, true, null, null);
        is(26, null, null, null);
        is(26, true, true, true);
        is(26, true, false, false);
        is(26, false, true, false);
        is(26, false, false, false);
    }

    private static void orOfNull() {
        check.sentence("27: NULL or true is true, otherwise with a NULL it is NULL");
        is(27, null, true, true);
        is(27, true, null, true);
        is(27, null, false, null);
        is(27, false, null, null);
        is(27, null, null, null);
        is(27, true, true, true);
        is(27, true, false, true);
        is(27, false, true, true);
        is(27, false, false, false);
    }

    private static void tablesInOrder() {
        check.sentence("in the order of the row of table 0, then of 1, then of 2");
        QueryRunner q = Make.sized(2, 3, 2);
        for (int table = 2; table >= 0; table--) {
            q.item(q.column(table, 0));
        }
        check.answers("all twelve", q, 3,
            "0,0,0|1,0,0|0,1,0|1,1,0|0,2,0|1,2,0|0,0,1|1,0,1|0,1,1|1,1,1|0,2,1|1,2,1");
    }

    private static void combinationsOfOneTable() {
        check.sentence("the COMBINATIONS of rows, one of each table");
        QueryRunner q = Make.sized(3);
        q.item(Make.constant(q, 1));
        check.same("of one table", q.run(), 3);
        q.table(1, 1);
        check.same("and an empty one", q.run(), 0);
        q.add(1);
        check.same("and one of a row", q.run(), 3);
        q.table(1, 1);
        check.same("and another empty one", q.run(), 0);
        q.add(2);
        q.add(2);
        check.same("and one of two rows", q.run(), 6);
    }

    private static void conditionTrueAlone() {
        check.sentence("those for which the condition is true (all, if there is none) count");
        QueryRunner q = new QueryRunner();
        q.table(2, 31);
        Make.row(q, 0, 1, true);
        Make.row(q, 0, 2, false);
        Make.row(q, 0, 3, null);
        q.item(q.column(0, 0));
        check.answers("none", q, 1, "1|2|3");
        q.where(q.column(0, 1));
        check.answers("true", q, 1, "1");
        q.where(Make.constant(q, true));
        check.answers("always true", q, 1, "1|2|3");
        q.where(Make.constant(q, false));
        check.answers("never true", q, 1, "");
        q.where(Make.constant(q, null));
        check.answers("NULL", q, 1, "");
    }

    /** The groups of a column's values, each with how many rows it has. */
    private static void groups(int type, String due, Object... values) {
        QueryRunner q = column(type, values);
        q.group(q.column(0, 0));
        q.item(q.column(0, 0));
        q.item(q.node(5, 0, 0));
        check.answers("groups", q, 2, due);
    }

    private static void groupsNullLikeNull() {
        check.sentence("those with like values in the groups (NULL like NULL) make one");
        groups(1, "null,3|0,1", null, 0, null, null);
        groups(2, "null,2|,1", null, "", null);
        groups(3, "false,2|null,2", false, null, null, false);
    }

    private static void groupsTellValuesApart() {
        check.sentence("those with like values in the groups make one, no others");
        groups(1, "0,2|1,1|-1,1|-9223372036854775808,1|4294967296,1", 0, 1, -1, MIN, 1L << 32, 0);
        groups(2, "a,1|a\0,2|,1|\0,1|\u00ff,1", "a", "a\0", "", "\0", "\u00ff", "a\0");
        groups(2, WHOLE + ",2|" + WHOLE.substring(0, 30) + ",1", WHOLE, WHOLE.substring(0, 30), WHOLE);
        groups(3, "true,1|false,2", true, false, false);
    }

    private static void groupsInOrderOfTheFirst() {
        check.sentence("in the order of the first ones");
        groups(1, "9,2|3,2|7,1|1,1", 9, 3, 9, 7, 3, 1);
    }

    /** 1600 combinations, as many values as rows of the one table or of the other, or of both. */
    private static void groupsOfManyValues() {
        check.sentence("those with like values in the groups make one, however many");
        for (int table = 0; table <= 1; table++) {
            QueryRunner q = Make.sized(40, 40);
            q.group(q.column(table, 0));
            q.item(q.node(5, 0, 0));
            q.item(q.column(table, 0));
            check.same("by table " + table, q.run(), 40);
            check.same("the last has 40", q.value(39, 0), 40);
            check.same("and is the last", q.value(39, 1), 39);
            q.group(q.column(1 - table, 0));
            check.same("by both", q.run(), 1600);
            check.same("the last kept has 1", q.value(63, 0), 1);
            check.same("and is one of the second forty", q.value(63, 1), table == 0 ? 1 : 23);
        }
        QueryRunner r = twice();
        r.group(r.column(0, 0));
        r.item(r.node(5, 0, 0));
        check.same("twenty", r.run(), 20);
        for (int row = 0; row < 20; row++) {
            check.same("each of two rows", r.value(row, 1), 2);
        }
    }

    /** 40 rows of 20 values, all of which come before one comes again; an item of them. */
    private static QueryRunner twice() {
        QueryRunner q = new QueryRunner();
        q.table(1, 1);
        for (int row = 0; row < 40; row++) {
            q.cell(0, row % 20);
            q.add(0);
        }
        q.item(q.column(0, 0));
        return q;
    }

    private static void oneRowWithoutGroups() {
        check.sentence("all one without groups (also if there are none)");
        QueryRunner q = Make.sized(3);
        q.item(q.node(5, 0, 0));
        q.item(Make.constant(q, "c"));
        check.answers("all one", q, 2, "3,c");
        q.where(Make.constant(q, false));
        check.answers("of none", q, 2, "0,c");
        q.distinct(true);
        q.order(0, true);
        check.answers("distinct and ordered", q, 2, "0,c");
        q.limit(0);
        check.answers("but for a limit", q, 2, "");
    }

    private static void oneRowAfterEach() {
        check.sentence("all one without groups, whatever ran before");
        QueryRunner q = Make.sized(3);
        q.item(Make.constant(q, "c"));
        check.answers("each", q, 1, "c|c|c");
        q.item(q.node(5, 0, 0));
        check.answers("all one", q, 2, "c,3");
        q.item(q.node(9, q.column(0, 0), 0));
        check.answers("of all", q, 3, "c,3,2");
    }

    private static void noRowOfGroupsOfNothing() {
        check.sentence("those with like values in the groups make one ROW: none if none counts");
        QueryRunner q = Make.sized(3);
        q.group(q.column(0, 0));
        q.item(q.node(5, 0, 0));
        q.where(Make.constant(q, false));
        check.same("an aggregate", q.run(), 0);
        QueryRunner r = Make.sized(0);
        r.group(r.column(0, 0));
        r.item(r.column(0, 0));
        check.same("no aggregate", r.run(), 0);
    }

    private static void eachMakesOne() {
        check.sentence("otherwise each makes one");
        QueryRunner q = Make.sized(2, 2);
        q.item(Make.constant(q, 7));
        check.answers("like ones, too", q, 1, "7|7|7|7");
        QueryRunner r = Make.sized(0);
        r.item(Make.constant(r, 7));
        check.same("none of none", r.run(), 0);
    }

    private static void columnOfTheFirst() {
        check.sentence("A column, in no aggregate, has the value of the first");
        QueryRunner q = new QueryRunner();
        q.table(2, 12);
        Make.row(q, 0, "x", 1);
        Make.row(q, 0, "y", 2);
        Make.row(q, 0, "x", 3);
        q.group(q.column(0, 0));
        int name = q.column(0, 0);
        q.item(q.node(16, name, Make.constant(q, "!")));
        q.item(q.node(9, q.column(0, 1), 0));
        q.item(q.column(0, 0));
        check.answers("beside aggregates of all", q, 3, "x!,3,x|y!,2,y");
    }

    private static QueryRunner table(int types, Object[]... rows) {
        QueryRunner q = new QueryRunner();
        q.table(2, types);
        for (Object[] row : rows) {
            Make.row(q, 0, row);
        }
        q.item(q.column(0, 0));
        q.item(q.column(0, 1));
        return q;
    }

    private static Object[] row(Object... cells) {
        return cells;
    }

    private static void distinctOfAllItems() {
        check.sentence("Distinct: a row goes if its items are like those of an earlier one");
        QueryRunner q = table(11, row(1, 1), row(1, 2), row(2, 1), row(1, 1), row(2, 1), row(2, 2));
        q.distinct(true);
        check.answers("both items", q, 2, "1,1|1,2|2,1|2,2");
        QueryRunner r = Make.sized(2, 2);
        r.item(Make.constant(r, 7));
        r.distinct(true);
        check.answers("all like", r, 1, "7");
    }

    private static void distinctNull() {
        check.sentence("Distinct: NULL like NULL");
        QueryRunner q = table(11, row(null, 1), row(null, null), row(null, 1), row(null, null), row(1, null));
        q.distinct(true);
        check.answers("NULLs", q, 2, "null,1|null,null|1,null");
    }

    private static void distinctTellsValuesApart() {
        check.sentence("Distinct: if its items are like, no others");
        QueryRunner q = table(21, row(0, ""), row(null, null), row(0, null), row(null, ""), row(0, "\0"), row(0, ""));
        q.distinct(true);
        check.answers("empty, zero and NULL", q, 2, "0,|null,null|0,null|null,|0,\0");
        QueryRunner r = table(31, row(0, false), row(0, null), row(0, true), row(0, false));
        r.distinct(true);
        check.answers("false and NULL", r, 2, "0,false|0,null|0,true");
    }

    private static void distinctKeepsTheEarlier() {
        check.sentence("Distinct: of an earlier one, which stays where it is");
        QueryRunner q = table(11, row(3, 0), row(1, 0), row(3, 0), row(2, 0), row(1, 0));
        q.distinct(true);
        check.answers("the first ones", q, 2, "3,0|1,0|2,0");
    }

    private static void distinctOfManyRows() {
        check.sentence("Distinct: an earlier one, however far");
        QueryRunner q = Make.sized(40, 40);
        q.item(q.node(11, q.column(0, 0), q.column(1, 0)));
        q.distinct(true);
        check.same("sums that differ", q.run(), 79);
        for (int row = 0; row < 64; row++) {
            check.same("the sums in their order", q.value(row, 0), row);
        }
        QueryRunner r = twice();
        r.distinct(true);
        check.same("twenty of forty", r.run(), 20);
        for (int i = 1; i < 8; i++) {
            r.item(0);
        }
        check.same("in each of eight items", r.run(), 20);
        check.same("the last", r.value(19, 7), 19);
    }

    private static void ordersOneAfterTheOther() {
        check.sentence("Orders: by the first order's item, among like ones by the next");
        QueryRunner q = table(11, row(2, 1), row(1, 2), row(2, 2), row(1, 1));
        q.order(1, false);
        check.answers("by item 1", q, 2, "2,1|1,1|1,2|2,2");
        q.order(0, false);
        check.answers("then by item 0", q, 2, "1,1|2,1|1,2|2,2");
        QueryRunner r = table(11, row(2, 1), row(1, 2), row(2, 2), row(1, 1));
        r.order(0, true);
        r.order(0, false);
        check.answers("the first of two by one item", r, 2, "2,1|2,2|1,2|1,1");
        r.order(1, true);
        check.answers("the third behind them", r, 2, "2,2|2,1|1,2|1,1");
    }

    private static void ordersNullBehind() {
        check.sentence("Orders: NULL behind all");
        QueryRunner q = table(11, row(null, 1), row(MAX, 2), row(null, 3), row(MIN, 4));
        q.order(0, false);
        check.answers("numbers", q, 2, MIN + ",4|" + MAX + ",2|null,1|null,3");
        QueryRunner r = table(12, row(null, 1), row("\u00ff", 2), row("", 3));
        r.order(0, false);
        check.answers("texts", r, 2, ",3|\u00ff,2|null,1");
        QueryRunner s = table(13, row(null, 1), row(true, 2), row(false, 3));
        s.order(0, false);
        check.answers("truths", s, 2, "false,3|true,2|null,1");
    }

    private static void ordersNullFirstWhenFalling() {
        check.sentence("Orders: with a falling one all the other way round");
        QueryRunner q = table(11, row(MIN, 4), row(null, 1), row(MAX, 2), row(null, 3));
        q.order(0, true);
        check.answers("numbers", q, 2, "null,1|null,3|" + MAX + ",2|" + MIN + ",4");
        QueryRunner r = table(12, row("", 3), row("a", 1), row(null, 1), row("a\0", 2));
        r.order(0, true);
        check.answers("texts", r, 2, "null,1|a\0,2|a,1|,3");
        QueryRunner s = table(13, row(false, 3), row(true, 2), row(null, 1));
        s.order(0, true);
        check.answers("truths", s, 2, "null,1|true,2|false,3");
    }

    private static void ordersLeaveLikeOnes() {
        check.sentence("Orders: otherwise they stay as they are");
        for (int falls = 0; falls <= 1; falls++) {
            QueryRunner q = new QueryRunner();
            q.table(2, 11);
            for (int i = 0; i < 33; i++) {
                Make.row(q, 0, i % 2, i);
            }
            q.item(q.column(0, 0));
            q.item(q.column(0, 1));
            q.order(0, falls == 1);
            q.run();
            int firstHalf = falls == 1 ? 16 : 17;
            for (int row = 0; row < 33; row++) {
                boolean early = row < firstHalf;
                long due = early ? 2 * row + falls : 2 * (row - firstHalf) + 1 - falls;
                check.same("row " + row + ", falling " + falls, q.value(row, 1), due);
            }
        }
        QueryRunner r = table(11, row(1, 3), row(1, 1), row(1, 2));
        r.order(0, true);
        check.answers("all like", r, 2, "1,3|1,1|1,2");
    }

    private static void limitBehindDistinctAndOrders() {
        check.sentence("Limit: the first so many stay");
        QueryRunner q = table(11, row(1, 0), row(1, 0), row(3, 0), row(2, 0), row(3, 0));
        q.limit(2);
        check.answers("of all", q, 2, "1,0|1,0");
        q.order(0, true);
        check.answers("of the ordered", q, 2, "3,0|3,0");
        q.distinct(true);
        check.answers("of those that differ", q, 2, "3,0|2,0");
        q.limit(3);
        check.answers("of all three", q, 2, "3,0|2,0|1,0");
        q.limit(4);
        check.answers("of fewer", q, 2, "3,0|2,0|1,0");
    }
}
