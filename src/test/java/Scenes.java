/** Objects that have been used, in which refused calls are tried. */
final class Scenes {
    /** The types of the eight cells that the scenes leave in hand: a number first, a truth third. */
    static final int WIDE = 12121321;

    private Scenes() {
    }

    /** A number, a text, a truth, a number, a full text, NULL, a text and a number. */
    static void fillHand(QueryRunner q) {
        q.clear();
        q.cell(0, 5);
        q.text(1, 0x6162, 2);
        q.truth(2, true);
        q.cell(3, -1);
        for (int i = 0; i < 3; i++) {
            q.text(4, 0x4142434445464748L + i, 8);
        }
        q.text(4, 0x494a4b4c4d4e4fL, 7);
        q.text(6, 'g', 1);
        q.cell(7, Long.MIN_VALUE);
    }

    static QueryRunner fresh() {
        return new QueryRunner();
    }

    static QueryRunner fullHand() {
        QueryRunner q = new QueryRunner();
        fillHand(q);
        return q;
    }

    private static QueryRunner twoTables() {
        QueryRunner q = new QueryRunner();
        q.table(3, 213);
        Make.row(q, 0, true, 3, "x");
        Make.row(q, 0, false, 1, "y");
        Make.row(q, 0, true, 2, null);
        q.table(8, WIDE);
        Make.row(q, 1, 1, "p");
        Make.row(q, 1, 2, "q", false);
        Make.row(q, 1, 2, "r");
        return q;
    }

    /**
     * Nodes 0 a column of truths (condition), 1 a number (item), 2 a text, 3 a constant 9 and 4 a
     * column under 5 their sum (item), 6 how many rows, 7 a text, 8 NULL, 9 a number that is free.
     */
    private static void addNodes(QueryRunner q) {
        q.column(0, 0);
        q.column(0, 1);
        q.column(0, 2);
        Make.constant(q, 9);
        q.column(1, 0);
        q.node(11, 3, 4);
        q.node(5, 0, 0);
        Make.constant(q, "t");
        Make.constant(q, null);
        q.column(1, 3);
    }

    /** Two tables, ten nodes, two items, an order, a limit; the answer is that of a query that was another. */
    static QueryRunner built() {
        QueryRunner q = twoTables();
        addNodes(q);
        q.item(1);
        q.item(5);
        q.run();
        q.where(0);
        q.order(0, true);
        q.limit(3);
        q.distinct(true);
        fillHand(q);
        return q;
    }

    /** The same with a group, so that the next run is refused. */
    static QueryRunner loose() {
        QueryRunner q = built();
        q.group(1);
        return q;
    }

    /** Three tables, one of them with 40 rows, 200 nodes, eight items, four groups, four orders. */
    static QueryRunner full() {
        QueryRunner q = new QueryRunner();
        q.table(1, 2);
        q.text(0, 'n', 1);
        q.add(0);
        q.table(8, WIDE);
        Make.row(q, 1, 1, "p");
        q.table(1, 1);
        q.clear();
        for (int row = 0; row < 40; row++) {
            q.add(2);
        }
        for (int i = 0; i < 8; i++) {
            int column = q.column(1, i);
            q.item(i < 4 ? column : q.node(9, column, 0));
        }
        for (int i = 0; i < 4; i++) {
            q.group(i);
            q.order(7 - i, i % 2 == 0);
        }
        while (q.column(1, 0) >= 0) {
            continue;
        }
        q.run();
        fillHand(q);
        return q;
    }

    /** An answer, and then a table more, with which more than 2000 combinations count. */
    static QueryRunner counting() {
        QueryRunner q = Make.sized(20, 10);
        q.item(q.column(0, 0));
        q.item(q.column(1, 0));
        q.order(1, true);
        q.limit(4);
        q.run();
        q.table(1, 1);
        q.clear();
        for (int row = 0; row < 11; row++) {
            q.add(2);
        }
        return q;
    }

    /** The same, with more than 40000 combinations; by the condition few count. */
    static QueryRunner crowded() {
        QueryRunner q = Make.sized(40, 38);
        q.item(q.column(0, 0));
        q.limit(4);
        q.run();
        q.where(Make.constant(q, false));
        q.table(1, 1);
        q.clear();
        for (int row = 0; row < 27; row++) {
            q.add(2);
        }
        return q;
    }

    /** Tables and rows, but no items. */
    static QueryRunner withoutItems() {
        QueryRunner q = twoTables();
        addNodes(q);
        q.where(0);
        fillHand(q);
        return q;
    }

    /** Items, but no tables. */
    static QueryRunner withoutTables() {
        QueryRunner q = new QueryRunner();
        q.item(Make.constant(q, 3));
        q.item(q.node(5, 0, 0));
        q.order(0, true);
        fillHand(q);
        return q;
    }
}
