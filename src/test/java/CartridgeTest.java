import java.util.NoSuchElementException;

/** Promises 9, 10, 15 and 16: lose, copy, room, item. */
public final class CartridgeTest {
    private static final Class<NoSuchElementException> NONE = NoSuchElementException.class;
    private static final Class<IndexOutOfBoundsException> OUTSIDE = IndexOutOfBoundsException.class;
    private static final int[] NO_CARTRIDGE = {-1, 3, Integer.MIN_VALUE, Integer.MAX_VALUE};

    private final Check check = new Check("CartridgeTest");

    public static void main(String[] args) {
        CartridgeTest test = new CartridgeTest();
        test.loseEmptiesRowAndTable();
        test.copyTakesRowAndTable();
        test.copyReplacesWhatWasThere();
        test.copyOfItself();
        test.copiesArePartedAfterwards();
        test.roomCountsEightAndBytes();
        test.itemTellsAll();
        test.refusesWrongInputs();
        test.check.end();
    }

    private static FolderRounds loaded() {
        FolderRounds x = new FolderRounds();
        x.edit(0, 4, 11, 1);
        x.erase(0, 6);
        x.edit(1, 4, 12, 2);
        x.visit(0, 1, 1);
        x.visit(0, 0, 12);
        return x;
    }

    private void loseEmptiesRowAndTable() {
        FolderRounds x = loaded();
        check.due("lose", x.lose(0), 3);
        check.due("lose again", x.lose(0), 0);
        check.due("room", x.room(0), 100);
        x.visit(0, 3, 0);
        check.due("nothing came", x.siblings(3, 4) + x.marks(3), 0);
        check.due("the table has zeros", Check.known(x, 3, 0, 4), "0 0 0 0");
        check.due("the station keeps what it had", x.siblings(0, 4), 2);
    }

    private void copyTakesRowAndTable() {
        FolderRounds x = loaded();
        x.copy(0, 2);
        check.due("from keeps its row", x.lose(0), 3);
        check.due("room", x.room(2), 100 - 8 - 11 - 8 - 12 - 8);
        check.due("0th", Check.item(x, 2, 0), "4 12 0 1 0 0");
        check.due("1st", Check.item(x, 2, 1), "4 11 1 0 0 0");
        check.due("2nd", Check.item(x, 2, 2), "6 -1 1 0 0 0");
        x.visit(2, 3, 0);
        check.due("the versions come", x.siblings(3, 4), 2);
        check.due("the table comes", Check.known(x, 3, 0, 4), "1 1 0 0");
    }

    private void copyReplacesWhatWasThere() {
        FolderRounds x = loaded();
        x.copy(1, 0);
        check.due("what it had is gone", x.lose(0), 0);
        FolderRounds y = loaded();
        y.copy(1, 0);
        y.visit(0, 3, 0);
        check.due("its table, too", Check.known(y, 3, 0, 4), "0 0 0 0");
    }

    private void copyOfItself() {
        FolderRounds x = loaded();
        x.copy(0, 0);
        check.due("0th", Check.item(x, 0, 0), "4 12 0 1 0 0");
        x.visit(0, 3, 0);
        check.due("the table stays", Check.known(x, 3, 0, 4), "1 1 0 0");
        check.due("the versions stay", x.siblings(3, 4), 2);
    }

    private void copiesArePartedAfterwards() {
        FolderRounds x = loaded();
        x.copy(0, 1);
        x.edit(2, 0, 1, 1);
        x.visit(0, 2, 0);
        check.due("the copy keeps its row", x.lose(1), 3);
        FolderRounds y = loaded();
        y.copy(0, 1);
        y.edit(2, 0, 1, 1);
        y.visit(0, 2, 0);
        y.visit(1, 3, 0);
        check.due("the copy keeps its table", Check.known(y, 3, 2, 0), "0 0 0 0");
    }

    private void roomCountsEightAndBytes() {
        FolderRounds x = new FolderRounds();
        x.edit(0, 0, 0, 0);
        x.visit(0, 0, 15);
        check.due("length 0", x.room(0), 92);
        x.erase(0, 0);
        x.visit(0, 0, 15);
        check.due("a mark", x.room(0), 92);
        x.edit(0, 0, 40, 0);
        x.visit(0, 0, 15);
        check.due("length 40", x.room(0), 52);
        check.due("others", x.room(1) + x.room(2), 200);
    }

    private void itemTellsAll() {
        FolderRounds x = loaded();
        check.due("with bytes", Check.item(x, 0, 0), "4 12 0 1 0 0");
        check.due("a mark", Check.item(x, 0, 2), "6 -1 1 0 0 0");
        x.edit(3, 9, 0, 0);
        x.visit(1, 3, 15);
        check.due("the fourth counter", Check.item(x, 1, 0), "9 0 0 0 0 1");
        x.edit(2, 9, 1, 0);
        x.visit(2, 2, 15);
        check.due("the third counter", Check.item(x, 2, 0), "9 1 0 0 1 0");
    }

    private void refusesWrongInputs() {
        for (int wrong : NO_CARTRIDGE) {
            check.refused("lose " + wrong, NONE, x -> x.lose(wrong));
            check.refused("copy from " + wrong, NONE, x -> x.copy(wrong, 0));
            check.refused("copy to " + wrong, NONE, x -> x.copy(0, wrong));
            check.refused("copy of both " + wrong, NONE, x -> x.copy(wrong, wrong));
            check.refused("room of " + wrong, NONE, x -> x.room(wrong));
            check.refused("item of cartridge " + wrong, NONE, x -> x.item(wrong, 0, 0));
        }
        for (int k : new int[] {-1, 1, Integer.MIN_VALUE, Integer.MAX_VALUE}) {
            check.refused("item " + k, NONE, x -> x.item(2, k, 0));
            check.refused("item " + k + " with what 6", NONE, x -> x.item(2, k, 6));
        }
        for (int what : new int[] {-1, 6, Integer.MIN_VALUE, Integer.MAX_VALUE}) {
            check.refused("item with what " + what, OUTSIDE, x -> x.item(2, 0, what));
        }
    }
}
