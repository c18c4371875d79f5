import java.util.ArrayList;
import java.util.Arrays;
import java.util.Collections;
import java.util.LinkedHashMap;
import java.util.LinkedHashSet;
import java.util.List;
import java.util.Map;

/**
 * The document again, as plainly as the Java library allows and by other means than the class: values
 * are null, Long, String and Boolean, and expressions are worked out by recursion.
 */
final class PlainModel {
    private static final class Node {
        int kind;
        int type;
        Node a;
        Node b;
        boolean used;
        int table;
        int column;
        Object constant;

        boolean isAggregate() {
            return kind >= 5 && kind <= 9;
        }

        boolean hasAggregate() {
            return isAggregate() || (a != null && a.hasAggregate()) || (b != null && b.hasAggregate());
        }
    }

    private static final class Refused extends Exception {
        private static final long serialVersionUID = 1L;
    }

    private Object[] hand;
    private List<int[]> types;
    private List<List<Object[]>> tables;
    private List<Node> nodes;
    private List<Node> items;
    private List<Node> groups;
    private List<int[]> orders;
    private Node condition;
    private int limit;
    private boolean distinct;
    private List<List<Object>> answer;

    PlainModel() {
        reset();
    }

    void reset() {
        hand = new Object[8];
        types = new ArrayList<>();
        tables = new ArrayList<>();
        nodes = new ArrayList<>();
        items = new ArrayList<>();
        groups = new ArrayList<>();
        orders = new ArrayList<>();
        condition = null;
        limit = -1;
        distinct = false;
        answer = new ArrayList<>();
    }

    int table(int many, int digits) {
        if (tables.size() == 3 || many < 1 || many > 8 || digits < 0) {
            return -1;
        }
        String written = new StringBuilder(String.format("%020d", digits)).reverse().substring(0, many);
        if (!written.matches("[123]*")) {
            return -1;
        }
        types.add(written.chars().map(c -> c - '0').toArray());
        tables.add(new ArrayList<>());
        return tables.size() - 1;
    }

    void clear() {
        Arrays.fill(hand, null);
    }

    boolean cell(int column, long value) {
        return put(column, value);
    }

    boolean truth(int column, boolean value) {
        return put(column, value);
    }

    private boolean put(int column, Object value) {
        if (column < 0 || column > 7) {
            return false;
        }
        hand[column] = value;
        return true;
    }

    boolean text(int column, long bytes, int n) {
        if (column < 0 || column > 7 || n < 0 || n > 8) {
            return false;
        }
        StringBuilder text = new StringBuilder(hand[column] instanceof String ? (String) hand[column] : "");
        String hex = String.format("%016x", bytes);
        for (int i = 8 - n; i < 8; i++) {
            text.append((char) Integer.parseInt(hex.substring(2 * i, 2 * i + 2), 16));
        }
        return text.length() <= 31 && put(column, text.toString());
    }

    private static int kindOf(Object value) {
        return value == null ? 0 : value instanceof Long ? 1 : value instanceof String ? 2 : 3;
    }

    int add(int table) {
        if (table < 0 || table >= tables.size() || tables.get(table).size() == 40) {
            return -1;
        }
        int[] wanted = types.get(table);
        for (int i = 0; i < wanted.length; i++) {
            if (hand[i] != null && kindOf(hand[i]) != wanted[i]) {
                return -1;
            }
        }
        tables.get(table).add(Arrays.copyOf(hand, wanted.length));
        return tables.get(table).size();
    }

    int column(int table, int column) {
        if (table < 0 || table >= tables.size() || column < 0 || column >= types.get(table).length) {
            return -1;
        }
        Node made = new Node();
        made.kind = 4;
        made.type = types.get(table)[column];
        made.table = table;
        made.column = column;
        return append(made);
    }

    int constant() {
        Node made = new Node();
        made.kind = kindOf(hand[0]);
        made.type = made.kind;
        made.constant = hand[0];
        return append(made);
    }

    private int append(Node made) {
        if (nodes.size() == 200) {
            return -1;
        }
        nodes.add(made);
        return nodes.size() - 1;
    }

    /** For each kind from 5: the types of a, of b ("*" any, "~" that of a), and its own ("a" that of a). */
    private static final String[] RULES = {
        "  1", "* 1", "1 1", "12 a", "12 a", "1 1", "1 1 1", "1 1 1", "1 1 1", "1 1 1", "1 1 1", "2 2 2",
        "* ~ 3", "* ~ 3", "* ~ 3", "* ~ 3", "* ~ 3", "* ~ 3", "* 3", "* 3", "3 3", "3 3 3", "3 3 3"
    };

    int node(int kind, int a, int b) {
        if (kind < 5 || kind > 27 || nodes.size() == 200) {
            return -1;
        }
        String[] rule = RULES[kind - 5].trim().split(" ");
        try {
            Node made = new Node();
            made.kind = kind;
            made.a = rule.length > 1 ? part(a, rule[0], null) : null;
            made.b = rule.length > 2 ? part(b, rule[1], made.a) : null;
            if (made.a != null && (made.a == made.b || (made.isAggregate() && made.a.hasAggregate()))) {
                return -1;
            }
            String own = rule[rule.length - 1];
            made.type = own.equals("a") ? made.a.type : Integer.parseInt(own);
            if (made.a != null) {
                made.a.used = true;
            }
            if (made.b != null) {
                made.b.used = true;
            }
            return append(made);
        } catch (Refused refused) {
            return -1;
        }
    }

    private Node part(int at, String rule, Node other) throws Refused {
        if (at < 0 || at >= nodes.size() || nodes.get(at).used) {
            throw new Refused();
        }
        Node part = nodes.get(at);
        boolean fits = part.type == 0 || rule.equals("*") || rule.contains(String.valueOf(part.type))
            || (rule.equals("~") && (other.type == 0 || other.type == part.type));
        if (!fits) {
            throw new Refused();
        }
        return part;
    }

    private Node at(int node) {
        return node >= 0 && node < nodes.size() ? nodes.get(node) : null;
    }

    int type(int node) {
        Node found = at(node);
        return found == null ? -1 : found.type + (found.hasAggregate() ? 10 : 0);
    }

    boolean where(int node) {
        Node found = at(node);
        if (node != -1 && (found == null || found.type == 1 || found.type == 2 || found.hasAggregate())) {
            return false;
        }
        condition = found;
        return true;
    }

    int item(int node) {
        if (at(node) == null || items.size() == 8) {
            return -1;
        }
        items.add(at(node));
        return items.size() - 1;
    }

    boolean group(int node) {
        return at(node) != null && at(node).kind == 4 && groups.size() < 4 && groups.add(at(node));
    }

    boolean order(int item, boolean falling) {
        return item >= 0 && item < items.size() && orders.size() < 4
            && orders.add(new int[] {item, falling ? -1 : 1});
    }

    boolean limit(int n) {
        if (n < -1) {
            return false;
        }
        limit = n;
        return true;
    }

    void distinct(boolean on) {
        distinct = on;
    }

    private Object evaluate(Node node, List<Object[][]> rows) {
        if (node.kind <= 3) {
            return node.constant;
        }
        if (node.kind == 4) {
            return rows.get(0)[node.table][node.column];
        }
        if (node.isAggregate()) {
            return aggregate(node, rows);
        }
        Object a = evaluate(node.a, rows);
        Object b = node.b == null ? null : evaluate(node.b, rows);
        switch (node.kind) {
            case 10:
                return a == null ? null : (Object) (-(Long) a);
            case 23:
                return a == null;
            case 24:
                return a != null;
            case 25:
                return a == null ? null : (Object) (!(Boolean) a);
            case 26:
                return Boolean.FALSE.equals(a) || Boolean.FALSE.equals(b) ? (Object) false
                    : a == null || b == null ? null : (Object) true;
            case 27:
                return Boolean.TRUE.equals(a) || Boolean.TRUE.equals(b) ? (Object) true
                    : a == null || b == null ? null : (Object) false;
            default:
                return a == null || b == null ? null : ofTwo(node.kind, a, b);
        }
    }

    private static Object ofTwo(int kind, Object a, Object b) {
        switch (kind) {
            case 11:
                return (Long) a + (Long) b;
            case 12:
                return (Long) a - (Long) b;
            case 13:
                return (Long) a * (Long) b;
            case 14:
                return (Long) b == 0 ? null : (Object) ((Long) a / (Long) b);
            case 15:
                return (Long) b == 0 ? null : (Object) ((Long) a - (Long) a / (Long) b * (Long) b);
            case 16:
                String both = (String) a + b;
                return both.substring(0, Math.min(31, both.length()));
            case 17:
                return compare(a, b) == 0;
            case 18:
                return compare(a, b) != 0;
            case 19:
                return compare(a, b) < 0;
            case 20:
                return compare(a, b) <= 0;
            case 21:
                return compare(a, b) > 0;
            default:
                return compare(a, b) >= 0;
        }
    }

    private static int compare(Object a, Object b) {
        if (a instanceof Long) {
            return ((Long) a).compareTo((Long) b);
        }
        if (a instanceof String) {
            return ((String) a).compareTo((String) b);
        }
        return ((Boolean) a).compareTo((Boolean) b);
    }

    private Object aggregate(Node node, List<Object[][]> rows) {
        if (node.kind == 5) {
            return (long) rows.size();
        }
        List<Object> present = new ArrayList<>();
        for (Object[][] row : rows) {
            Object value = evaluate(node.a, Collections.singletonList(row));
            if (value != null) {
                present.add(value);
            }
        }
        if (node.kind == 6) {
            return (long) present.size();
        }
        if (present.isEmpty()) {
            return null;
        }
        if (node.kind == 7) {
            return present.stream().mapToLong(value -> (Long) value).sum();
        }
        present.sort(PlainModel::compare);
        return present.get(node.kind == 8 ? 0 : present.size() - 1);
    }

    private List<Object[][]> combinations() {
        List<Object[][]> all = new ArrayList<>();
        all.add(new Object[0][]);
        for (List<Object[]> table : tables) {
            List<Object[][]> longer = new ArrayList<>();
            for (Object[][] before : all) {
                for (Object[] row : table) {
                    Object[][] one = Arrays.copyOf(before, before.length + 1);
                    one[before.length] = row;
                    longer.add(one);
                }
            }
            all = longer;
        }
        return all;
    }

    private boolean hasLoose(Node node) {
        if (node == null || node.isAggregate()) {
            return false;
        }
        if (node.kind == 4) {
            return groups.stream().noneMatch(g -> g.table == node.table && g.column == node.column);
        }
        return hasLoose(node.a) || hasLoose(node.b);
    }

    private List<List<Object[][]>> partsOf(List<Object[][]> counting, boolean grouped) {
        if (grouped && groups.isEmpty()) {
            return Collections.singletonList(counting);
        }
        Map<Object, List<Object[][]>> parts = new LinkedHashMap<>();
        for (int i = 0; i < counting.size(); i++) {
            Object key = i;
            if (grouped) {
                List<Object> values = new ArrayList<>();
                for (Node group : groups) {
                    values.add(counting.get(i)[group.table][group.column]);
                }
                key = values;
            }
            parts.computeIfAbsent(key, k -> new ArrayList<>()).add(counting.get(i));
        }
        return new ArrayList<>(parts.values());
    }

    int run() {
        if (tables.isEmpty() || items.isEmpty()) {
            return -1;
        }
        boolean grouped = !groups.isEmpty() || items.stream().anyMatch(Node::hasAggregate);
        if (grouped && items.stream().anyMatch(this::hasLoose)) {
            return -3;
        }
        if (tables.stream().mapToInt(t -> Math.max(1, t.size())).reduce(1, (x, y) -> x * y) > 40000) {
            return -2;
        }
        List<Object[][]> counting = combinations();
        counting.removeIf(one -> condition != null
            && !Boolean.TRUE.equals(evaluate(condition, Collections.singletonList(one))));
        if (counting.size() > 2000) {
            return -2;
        }
        List<List<Object>> rows = new ArrayList<>();
        for (List<Object[][]> part : partsOf(counting, grouped)) {
            List<Object> row = new ArrayList<>();
            for (Node item : items) {
                row.add(evaluate(item, part));
            }
            rows.add(row);
        }
        if (distinct) {
            rows = new ArrayList<>(new LinkedHashSet<>(rows));
        }
        rows.sort(this::compareRows);
        if (limit >= 0 && limit < rows.size()) {
            rows = rows.subList(0, limit);
        }
        answer = new ArrayList<>(rows.subList(0, Math.min(64, rows.size())));
        return rows.size();
    }

    private int compareRows(List<Object> x, List<Object> y) {
        for (int[] order : orders) {
            Object a = x.get(order[0]);
            Object b = y.get(order[0]);
            int difference = a == null || b == null ? Boolean.compare(a == null, b == null) : compare(a, b);
            if (difference != 0) {
                return Integer.signum(difference) * order[1];
            }
        }
        return 0;
    }

    private boolean isKept(int row, int item) {
        return row >= 0 && row < answer.size() && item >= 0 && item < answer.get(row).size();
    }

    int kind(int row, int item) {
        return isKept(row, item) ? kindOf(answer.get(row).get(item)) : -1;
    }

    long value(int row, int item) {
        Object found = isKept(row, item) ? answer.get(row).get(item) : null;
        if (found instanceof Boolean) {
            return (Boolean) found ? 1 : 0;
        }
        return found == null ? 0 : found instanceof Long ? (Long) found : ((String) found).length();
    }

    int letter(int row, int item, int i) {
        Object found = isKept(row, item) ? answer.get(row).get(item) : null;
        boolean there = found instanceof String && i >= 0 && i < ((String) found).length();
        return there ? ((String) found).charAt(i) : -1;
    }

    int nodeCount() {
        return nodes.size();
    }

    int itemCount() {
        return items.size();
    }

    int tableCount() {
        return tables.size();
    }
}
