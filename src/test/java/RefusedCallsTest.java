import java.util.ArrayList;
import java.util.List;
import java.util.function.Consumer;
import java.util.function.Predicate;
import java.util.function.Supplier;
import java.util.function.ToLongFunction;

/**
 * "A call that is refused changes nothing": whatever is asked of an object after a refused call, it
 * answers as its twin that never got that call. In the same way, after reset it answers as a new one.
 */
public final class RefusedCallsTest {
    private static final Check check = new Check("RefusedCallsTest");
    private static final int[] FAR = {Integer.MAX_VALUE, Integer.MIN_VALUE};

    private static final class Call {
        final String words;
        final long due;
        final ToLongFunction<QueryRunner> on;

        Call(String words, long due, ToLongFunction<QueryRunner> on) {
            this.words = words;
            this.due = due;
            this.on = on;
        }
    }

    private final String scene;
    private final Supplier<QueryRunner> make;
    private final List<List<Long>> untouched = new ArrayList<>();
    private final List<Call> calls = new ArrayList<>();

    private RefusedCallsTest(String scene, Supplier<QueryRunner> make) {
        this.scene = scene;
        this.make = make;
        for (int probe = 0; probe < Probes.many(); probe++) {
            untouched.add(Probes.look(probe, make.get()));
        }
    }

    public static void main(String[] args) {
        ofNew().changeNothing();
        ofFullHand().changeNothing();
        ofBuilt().changeNothing();
        ofFull().changeNothing();
        runs("no items", Scenes::withoutItems, -1);
        runs("no tables", Scenes::withoutTables, -1);
        runs("a loose column", Scenes::loose, -3);
        runs("more than 2000 that count", Scenes::counting, -2);
        runs("more than 40000", Scenes::crowded, -2);
        accepted().changeSomething();
        resets();
        check.done();
    }

    private static void runs(String scene, Supplier<QueryRunner> make, long due) {
        new RefusedCallsTest(scene, make).number("run", due, QueryRunner::run).changeNothing();
    }

    private RefusedCallsTest number(String words, long due, ToLongFunction<QueryRunner> on) {
        calls.add(new Call(words, due, on));
        return this;
    }

    private RefusedCallsTest truth(String words, Predicate<QueryRunner> on) {
        return number(words, 0, q -> on.test(q) ? 1 : 0);
    }

    private RefusedCallsTest change(String words, Consumer<QueryRunner> on) {
        return number(words, 0, q -> {
            on.accept(q);
            return 0;
        });
    }

    private void changeNothing() {
        for (Call call : calls) {
            check.sentence("A call that is refused changes nothing: " + call.words + ", " + scene);
            for (int probe = 0; probe < Probes.many(); probe++) {
                QueryRunner q = make.get();
                check.same("the call", call.on.applyAsLong(q), call.due);
                check.same("probe " + probe, Probes.look(probe, q).toString(), untouched.get(probe).toString());
            }
        }
    }

    /** If the probes did not see what calls change, they would not see what refused ones change. */
    private void changeSomething() {
        for (Call call : calls) {
            check.sentence("the probes see a change: " + call.words + ", " + scene);
            boolean seen = false;
            for (int probe = 0; probe < Probes.many(); probe++) {
                QueryRunner q = make.get();
                call.on.applyAsLong(q);
                seen |= !Probes.look(probe, q).equals(untouched.get(probe));
            }
            check.yes("seen", seen);
        }
    }

    private RefusedCallsTest wrongTables() {
        for (int many : new int[] {0, 9, -1, FAR[0], FAR[1]}) {
            number("table(" + many + ", 1111111111)", -1, q -> q.table(many, 1111111111));
        }
        for (int types : new int[] {0, 4, 10, 14, 41, 1, -11, -1, FAR[0], FAR[1]}) {
            number("table(2, " + types + ")", -1, q -> q.table(2, types));
        }
        return this;
    }

    private RefusedCallsTest wrongCells() {
        for (int column : new int[] {-1, 8, FAR[0], FAR[1]}) {
            truth("cell(" + column + ")", q -> q.cell(column, 77));
            truth("truth(" + column + ")", q -> q.truth(column, true));
            truth("text(" + column + ")", q -> q.text(column, 'w', 1));
            truth("text(" + column + ") of none", q -> q.text(column, 'w', 0));
        }
        for (int n : new int[] {-1, 9, FAR[0], FAR[1]}) {
            for (int column = 0; column < 8; column++) {
                int at = column;
                truth("text(" + at + ") of " + n, q -> q.text(at, 'w', n));
            }
        }
        return this;
    }

    /** The numbers stand for none in this scene. */
    private RefusedCallsTest noSuch(int tables, int nodes, int items) {
        for (int none : new int[] {-1, tables, 3, FAR[0], FAR[1]}) {
            number("add(" + none + ")", -1, q -> q.add(none));
            number("column(" + none + ", 0)", -1, q -> q.column(none, 0));
        }
        for (int none : new int[] {-1, -2, nodes, 200, FAR[0], FAR[1]}) {
            number("item(" + none + ")", -1, q -> q.item(none));
            truth("group(" + none + ")", q -> q.group(none));
            for (int kind = 6; kind <= 27; kind++) {
                int of = kind;
                number("node(" + kind + ", " + none + ", 0)", -1, q -> q.node(of, none, 0));
            }
            if (none != -1) {
                truth("where(" + none + ")", q -> q.where(none));
            }
        }
        for (int none : new int[] {-1, items, 8, FAR[0], FAR[1]}) {
            truth("order(" + none + ")", q -> q.order(none, false));
        }
        return this;
    }

    private RefusedCallsTest wrongNumbers() {
        for (int kind : new int[] {4, 0, -1, 28, FAR[0], FAR[1]}) {
            number("node(" + kind + ", 7, 8)", -1, q -> q.node(kind, 7, 8));
        }
        for (int n : new int[] {-2, -3, FAR[1]}) {
            truth("limit(" + n + ")", q -> q.limit(n));
        }
        return this;
    }

    private static RefusedCallsTest ofNew() {
        return new RefusedCallsTest("new", Scenes::fresh).wrongTables().wrongCells().noSuch(0, 0, 0)
            .wrongNumbers().number("run", -1, QueryRunner::run);
    }

    private static RefusedCallsTest ofFullHand() {
        RefusedCallsTest test = new RefusedCallsTest("cells in hand", Scenes::fullHand).wrongCells();
        for (int n = 1; n <= 8; n++) {
            int more = n;
            test.truth("text of " + n + " behind 31", q -> q.text(4, 0x7777777777777777L, more));
        }
        return test;
    }

    private static RefusedCallsTest ofBuilt() {
        RefusedCallsTest test = new RefusedCallsTest("built", Scenes::built).wrongTables().wrongCells()
            .noSuch(2, 10, 2).wrongNumbers();
        test.number("add(0) of other types", -1, q -> q.add(0));
        for (int column : new int[] {-1, 3, 8, FAR[0], FAR[1]}) {
            test.number("column(0, " + column + ")", -1, q -> q.column(0, column));
        }
        test.number("column(1, 8)", -1, q -> q.column(1, 8));
        test.truth("text behind 31", q -> q.text(4, 'w', 1));
        test.number("a is one's", -1, q -> q.node(10, 3, 0));
        test.number("a is one's, of two", -1, q -> q.node(11, 4, 9));
        test.number("b is one's", -1, q -> q.node(11, 9, 3));
        test.number("b is none", -1, q -> q.node(11, 9, 10));
        test.number("the same", -1, q -> q.node(11, 9, 9));
        test.number("a is a text", -1, q -> q.node(11, 7, 9));
        test.number("b is a text", -1, q -> q.node(11, 9, 7));
        test.number("unlike types", -1, q -> q.node(17, 9, 7));
        test.number("least of truths", -1, q -> q.node(8, 0, 0));
        test.number("sum of texts", -1, q -> q.node(7, 7, 0));
        test.number("not of a number", -1, q -> q.node(25, 9, 0));
        test.number("sum of an aggregate", -1, q -> q.node(7, 6, 0));
        test.number("count of an aggregate", -1, q -> q.node(6, 6, 0));
        test.truth("condition of a number", q -> q.where(9));
        test.truth("condition of a text", q -> q.where(7));
        test.truth("condition of an aggregate", q -> q.where(6));
        test.truth("group by a constant", q -> q.group(8));
        test.truth("group by a sum", q -> q.group(5));
        test.truth("group by an aggregate", q -> q.group(6));
        return test;
    }

    private static RefusedCallsTest ofFull() {
        RefusedCallsTest test = new RefusedCallsTest("full", Scenes::full).wrongCells().wrongNumbers();
        test.number("a fourth table", -1, q -> q.table(1, 1));
        test.number("a 41st row", -1, q -> q.add(2));
        test.number("a row of other types", -1, q -> q.add(0));
        test.number("a 201st column", -1, q -> q.column(0, 0));
        test.number("a 201st constant", -1, QueryRunner::constant);
        for (int kind = 5; kind <= 27; kind++) {
            int of = kind;
            test.number("a 201st node of " + kind, -1, q -> q.node(of, 198, 199));
        }
        test.number("a ninth item", -1, q -> q.item(0));
        test.truth("a fifth group", q -> q.group(199));
        test.truth("a fifth order", q -> q.order(0, true));
        test.truth("a text behind 31", q -> q.text(4, 'w', 1));
        test.truth("a condition of a number", q -> q.where(0));
        test.truth("a condition with an aggregate", q -> q.where(5));
        return test;
    }

    private static RefusedCallsTest accepted() {
        RefusedCallsTest test = new RefusedCallsTest("built", Scenes::built);
        test.change("reset", QueryRunner::reset);
        test.change("clear", QueryRunner::clear);
        test.change("table", q -> q.table(1, 1));
        for (int i = 0; i < 8; i++) {
            int column = i;
            test.change("cell " + i, q -> q.cell(column, 77));
            test.change("truth " + i, q -> q.truth(column, false));
            test.change("text " + i, q -> q.text(column, 'w', column == 4 ? 0 : 1));
        }
        // Cell 4 is full, so that no byte more changes nothing.
        test.calls.removeIf(call -> call.words.equals("text 4"));
        test.change("add", q -> q.add(1));
        test.change("column", q -> q.column(0, 0));
        test.change("constant", QueryRunner::constant);
        test.change("node", q -> q.node(10, 9, 0));
        test.change("where", q -> q.where(8));
        test.change("where none", q -> q.where(-1));
        test.change("item", q -> q.item(6));
        test.change("group", q -> q.group(1));
        test.change("order", q -> q.order(1, false));
        test.change("limit", q -> q.limit(1));
        test.change("distinct", q -> q.distinct(false));
        test.change("run", QueryRunner::run);
        return test;
    }

    private static void resets() {
        List<Supplier<QueryRunner>> scenes = List.of(Scenes::fullHand, Scenes::built, Scenes::loose, Scenes::full,
            Scenes::counting, Scenes::crowded, Scenes::withoutItems, Scenes::withoutTables);
        for (Supplier<QueryRunner> scene : scenes) {
            RefusedCallsTest test = new RefusedCallsTest("reset", QueryRunner::new);
            check.sentence("2: All is as at first again");
            for (int probe = 0; probe < Probes.many(); probe++) {
                QueryRunner q = scene.get();
                q.reset();
                check.same("probe " + probe, Probes.look(probe, q).toString(), test.untouched.get(probe).toString());
            }
        }
    }
}
