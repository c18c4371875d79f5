/** Short ways to build what the tests need. */
final class Make {
    private Make() {
    }

    static boolean write(QueryRunner q, int column, String text) {
        boolean good = q.text(column, 0, 0);
        for (int i = 0; i < text.length(); i++) {
            good &= q.text(column, text.charAt(i), 1);
        }
        return good;
    }

    /** A cell is null, a Long or Integer, a String or a Boolean. */
    static void cell(QueryRunner q, int column, Object value) {
        if (value instanceof Boolean) {
            q.truth(column, (Boolean) value);
        } else if (value instanceof String) {
            write(q, column, (String) value);
        } else if (value != null) {
            q.cell(column, ((Number) value).longValue());
        }
    }

    static int row(QueryRunner q, int table, Object... cells) {
        q.clear();
        for (int i = 0; i < cells.length; i++) {
            cell(q, i, cells[i]);
        }
        return q.add(table);
    }

    /**
     * The eight cells of the hand of an object without tables, or "refused" if they are not of
     * these types: a row of a table shows them.
     */
    static String hand(QueryRunner q, int types) {
        int table = q.table(8, types);
        if (q.add(table) != 1) {
            return "refused";
        }
        for (int i = 0; i < 8; i++) {
            q.item(q.column(table, i));
        }
        return answers(q, q.run(), 8);
    }

    static int constant(QueryRunner q, Object value) {
        q.clear();
        cell(q, 0, value);
        return q.constant();
    }

    /** Tables of one column of numbers, 0 and on, with so many rows each. */
    static QueryRunner sized(int... sizes) {
        QueryRunner q = new QueryRunner();
        for (int table = 0; table < sizes.length; table++) {
            q.table(1, 1);
            for (int row = 0; row < sizes[table]; row++) {
                q.cell(0, row);
                q.add(table);
            }
        }
        return q;
    }

    /** The value of an answer as an object, as cells are given; "none" if there is none such. */
    static Object answer(QueryRunner q, int row, int item) {
        switch (q.kind(row, item)) {
            case 0:
                return null;
            case 1:
                return q.value(row, item);
            case 2:
                return answerText(q, row, item);
            case 3:
                return q.value(row, item) == 1;
            default:
                return "none";
        }
    }

    private static String answerText(QueryRunner q, int row, int item) {
        StringBuilder text = new StringBuilder();
        long length = q.value(row, item);
        for (int i = 0; i < length; i++) {
            text.append((char) q.letter(row, item, i));
        }
        return text.toString();
    }

    /** All kept rows in a line, items parted by commas and rows by bars. */
    static String answers(QueryRunner q, int rows, int items) {
        StringBuilder all = new StringBuilder();
        for (int row = 0; row < rows; row++) {
            all.append(row == 0 ? "" : "|");
            for (int item = 0; item < items; item++) {
                all.append(item == 0 ? "" : ",").append(answer(q, row, item));
            }
        }
        return all.toString();
    }
}
