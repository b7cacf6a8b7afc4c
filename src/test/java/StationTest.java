import java.util.NoSuchElementException;

/** Promises 11 to 14 and 17: known, marks, bytes, same, leftOut. */
public final class StationTest {
    private static final Class<NoSuchElementException> NONE = NoSuchElementException.class;
    private static final Class<IndexOutOfBoundsException> OUTSIDE = IndexOutOfBoundsException.class;

    private final Check check = new Check("StationTest");

    public static void main(String[] args) {
        StationTest test = new StationTest();
        test.knownOfItselfAndOthers();
        test.knownRefuses();
        test.marksCountsAllDocuments();
        test.bytesCountsAllThatStands();
        test.sameComparesVersionsWithBytes();
        test.sameLooksAtEachSide();
        test.leftOutCountsEachTime();
        test.refusesNoStation();
        test.check.end();
    }

    private void knownOfItselfAndOthers() {
        FolderRounds x = new FolderRounds();
        x.edit(1, 2, 1, 1);
        x.edit(1, 2, 1, 1);
        x.erase(3, 2);
        check.due("its own", Check.known(x, 1, 1, 2), "0 2 0 0");
        check.due("its own of a mark", Check.known(x, 3, 3, 2), "0 0 0 1");
        x.visit(0, 1, 8);
        x.visit(0, 3, 0);
        check.due("own joins", Check.known(x, 3, 3, 2), "0 2 0 1");
        check.due("of the other", Check.known(x, 3, 1, 2), "0 2 0 0");
        check.due("of a third", Check.known(x, 3, 0, 2), "0 0 0 0");
        check.due("of another document", Check.known(x, 3, 1, 1), "0 0 0 0");
        check.due("the other knows nothing", Check.known(x, 1, 3, 2), "0 0 0 0");
    }

    private void knownRefuses() {
        for (int wrong : new int[] {-1, 4, Integer.MIN_VALUE, Integer.MAX_VALUE}) {
            check.refused("known at station " + wrong, NONE, x -> x.known(wrong, 0, 0, 0));
            check.refused("known of station " + wrong, NONE, x -> x.known(0, wrong, 0, 0));
            check.refused("known with j " + wrong, OUTSIDE, x -> x.known(0, 0, 0, wrong));
        }
        for (int wrong : new int[] {-1, 10, Integer.MIN_VALUE, Integer.MAX_VALUE}) {
            check.refused("known of document " + wrong, NONE, x -> x.known(0, 0, wrong, 0));
            check.refused("known of document " + wrong + " with j 4", NONE, x -> x.known(0, 0, wrong, 4));
        }
        check.refused("known of station 4 with j 4", NONE, x -> x.known(0, 4, 0, 4));
    }

    private void marksCountsAllDocuments() {
        FolderRounds x = new FolderRounds();
        x.erase(0, 0);
        x.erase(0, 9);
        x.edit(0, 5, 0, 0);
        check.due("marks", x.marks(0), 2);
        x.erase(1, 0);
        x.visit(0, 1, 1);
        x.visit(0, 0, 0);
        check.due("two marks of one document", x.marks(0), 3);
        x.edit(0, 0, 1, 1);
        check.due("an edit replaces both", x.marks(0), 1);
        check.due("other stations", x.marks(1) * 100 + x.marks(2) * 10 + x.marks(3), 100);
    }

    private void bytesCountsAllThatStands() {
        FolderRounds x = Runs.threeSiblings();
        check.due("of siblings", x.bytes(2), 6);
        x.edit(2, 0, 40, 0);
        x.erase(2, 1);
        check.due("of all documents", x.bytes(2), 46);
        check.due("elsewhere", Check.row(4, x::bytes), "1 2 46 0");
    }

    private void sameComparesVersionsWithBytes() {
        FolderRounds x = new FolderRounds();
        check.due("nothing at both", x.same(0, 1), true);
        x.erase(0, 0);
        check.due("marks aside", x.same(0, 1), true);
        x.erase(1, 9);
        check.due("marks aside at both", x.same(0, 1), true);
        x.edit(0, 4, 3, 3);
        check.due("one more", x.same(0, 1), false);
        check.due("one less", x.same(1, 0), false);
        x.edit(1, 4, 3, 3);
        check.due("same bytes, other vectors", x.same(0, 1), false);
        x.visit(0, 0, 2);
        x.visit(0, 1, 1);
        check.due("one of two", x.same(0, 1), false);
        check.due("two of one", x.same(1, 0), false);
        x.visit(0, 0, 0);
        check.due("both at both", x.same(0, 1), true);
        check.due("both at both, turned", x.same(1, 0), true);
        x.erase(1, 4);
        check.due("erased at one", x.same(0, 1), false);
        check.due("with itself", x.same(0, 0) && x.same(1, 1), true);
        check.due("an erased one is as none", x.same(1, 2), true);
    }

    private void sameLooksAtEachSide() {
        FolderRounds x = new FolderRounds();
        x.edit(0, 0, 1, 1);
        x.visit(0, 0, 6);
        x.visit(0, 1, 4);
        x.visit(0, 2, 0);
        check.due("same at three", x.same(0, 1) && x.same(1, 2) && x.same(0, 2), true);
        x.edit(1, 9, 0, 0);
        check.due("a later document more", x.same(0, 1), false);
        check.due("a later document less", x.same(1, 0), false);
        x.edit(2, 8, 0, 0);
        check.due("as many, of other documents", x.same(1, 2), false);
        FolderRounds y = new FolderRounds();
        y.edit(0, 3, 1, 1);
        y.edit(1, 4, 1, 1);
        check.due("other documents", y.same(0, 1), false);
        FolderRounds z = new FolderRounds();
        z.edit(0, 3, 1, 1);
        z.edit(0, 4, 1, 1);
        z.visit(0, 0, 2);
        z.visit(0, 1, 0);
        z.erase(1, 3);
        z.erase(0, 0);
        check.due("a mark where the other has bytes", z.same(0, 1), false);
        check.due("a mark where the other has bytes, turned", z.same(1, 0), false);
        z.erase(0, 3);
        check.due("marks of other vectors aside", z.same(0, 1), true);
    }

    private void leftOutCountsEachTime() {
        FolderRounds x = new FolderRounds();
        Runs.fill(x, 1, 300);
        x.edit(0, 9, 1, 1);
        x.visit(0, 0, 6);
        x.copy(0, 1);
        x.visit(0, 1, 0);
        check.due("left out", x.leftOut(), 1);
        x.copy(1, 0);
        x.visit(0, 1, 0);
        check.due("left out once more", x.leftOut(), 2);
        Runs.fill(x, 2, 300);
        x.visit(1, 2, 0);
        check.due("left out at another station", x.leftOut(), 3);
        check.due("an edit without room", Check.thrownBy(x, y -> y.edit(1, 9, 1, 1)),
                UnsupportedOperationException.class);
        check.due("is not left out", x.leftOut(), 3);
        x.edit(0, 8, 0, 0);
        x.erase(0, 9);
        x.visit(0, 0, 2);
        x.visit(0, 1, 0);
        check.due("no bytes always fit", x.leftOut(), 3);
        check.due("length 0 stands", x.siblings(1, 8), 1);
        check.due("the mark stands", x.marks(1), 1);
    }

    private void refusesNoStation() {
        for (int wrong : new int[] {-1, 4, Integer.MIN_VALUE, Integer.MAX_VALUE}) {
            check.refused("marks of " + wrong, NONE, x -> x.marks(wrong));
            check.refused("bytes of " + wrong, NONE, x -> x.bytes(wrong));
            check.refused("same of " + wrong + " and 0", NONE, x -> x.same(wrong, 0));
            check.refused("same of 0 and " + wrong, NONE, x -> x.same(0, wrong));
            check.refused("same of both " + wrong, NONE, x -> x.same(wrong, wrong));
        }
    }
}
