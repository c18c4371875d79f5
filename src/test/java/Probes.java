import java.util.ArrayList;
import java.util.Arrays;
import java.util.List;
import java.util.function.Consumer;

/**
 * Runs of calls that look at all that an object answers by. They change the object, so each is for
 * an object of its own; none is so long that an object would see more than 512 calls.
 */
final class Probes {
    private static final int[] ROWS = {0, 1, 2};
    private static final List<Consumer<Probes>> ALL = Arrays.asList(
        Probes::readAnswer, Probes::readTypes, Probes::readHandByConstant, Probes::readFirstCells,
        Probes::readLastCells, Probes::runWithLess, Probes::countTablesAndRows, Probes::countClauses, Probes::findFreeNodes);

    private final QueryRunner q;
    private final List<Long> seen = new ArrayList<>();

    private Probes(QueryRunner q) {
        this.q = q;
    }

    static int many() {
        return ALL.size();
    }

    /** The answers of one probe. */
    static List<Long> look(int probe, QueryRunner q) {
        Probes probes = new Probes(q);
        ALL.get(probe).accept(probes);
        return probes.seen;
    }

    private void saw(long answer) {
        seen.add(answer);
    }

    private void saw(boolean answer) {
        seen.add(answer ? 1L : 0L);
    }

    private void readAnswer() {
        for (int row : ROWS) {
            for (int item = 0; item < 8; item++) {
                saw(q.kind(row, item));
                saw(q.value(row, item));
                saw(q.letter(row, item, 0));
                saw(q.letter(row, item, 2));
            }
        }
        saw(q.kind(63, 0));
        saw(q.kind(64, 0));
        saw(q.kind(0, 8));
        saw(q.letter(0, 0, 30));
    }

    private void readTypes() {
        for (int node = 0; node <= 200; node++) {
            saw(q.type(node));
        }
    }

    private void readHandByConstant() {
        saw(q.constant());
        saw(q.type(199));
        saw(q.node(5, 0, 0));
        saw(q.text(4, 'z', 1));
        saw(q.text(4, 0, 0));
        int item = q.item(q.constant());
        saw(item);
        saw(q.where(-1));
        saw(q.run());
        for (int row : ROWS) {
            saw(q.kind(row, item));
            saw(q.value(row, item));
            saw(q.letter(row, item, 0));
        }
    }

    private void readFirstCells() {
        readCells(0);
    }

    private void readLastCells() {
        readCells(4);
    }

    /** A row of a new table shows cells of the hand; table 1 takes them where there are three. */
    private void readCells(int first) {
        int made = q.table(8, Scenes.WIDE);
        int table = made >= 0 ? made : 1;
        saw(table);
        saw(q.add(table));
        saw(q.where(-1));
        saw(q.limit(-1));
        for (int column = first; column < first + 4; column++) {
            saw(q.item(q.column(table, column)));
        }
        saw(q.run());
        readAnswer();
    }

    private void runWithLess() {
        saw(q.run());
        readAnswer();
        saw(q.limit(-1));
        saw(q.run());
        saw(q.value(0, 0));
        q.distinct(false);
        saw(q.run());
        saw(q.value(1, 0));
        saw(q.where(-1));
        saw(q.run());
        readAnswer();
    }

    private void countTablesAndRows() {
        for (int table = 0; table < 3; table++) {
            for (int column = 0; column < 9; column++) {
                saw(q.column(table, column));
            }
        }
        q.clear();
        for (int table = 0; table < 3; table++) {
            saw(q.add(table));
        }
        for (int i = 0; i < 3; i++) {
            saw(q.table(1, 1));
        }
        saw(q.run());
    }

    private void countClauses() {
        saw(q.constant());
        for (int i = 0; i < 9; i++) {
            saw(q.item(0));
        }
        for (int i = 0; i < 5; i++) {
            saw(q.order(0, true));
        }
        saw(q.run());
        readAnswer();
        for (int i = 0; i < 5; i++) {
            saw(q.group(0));
        }
        saw(q.run());
    }

    private void findFreeNodes() {
        for (int node = 0; node < 40; node++) {
            saw(q.node(24, node, 0));
        }
        saw(q.run());
        readAnswer();
    }
}
