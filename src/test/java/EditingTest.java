import java.util.NoSuchElementException;

/** Promises 1 to 6: a new object, edit, erase, siblings, counter, byteOf. */
public final class EditingTest {
    private static final Class<NoSuchElementException> NONE = NoSuchElementException.class;
    private static final Class<IllegalArgumentException> ILLEGAL = IllegalArgumentException.class;
    private static final Class<UnsupportedOperationException> UNSUPPORTED = UnsupportedOperationException.class;
    private static final Class<IndexOutOfBoundsException> OUTSIDE = IndexOutOfBoundsException.class;
    private static final int[] NO_STATION = {-1, 4, Integer.MIN_VALUE, Integer.MAX_VALUE};
    private static final int[] NO_DOCUMENT = {-1, 10, Integer.MIN_VALUE, Integer.MAX_VALUE};

    private final Check check = new Check("EditingTest");

    public static void main(String[] args) {
        EditingTest test = new EditingTest();
        test.newObjectIsEmpty();
        test.editMakesVersion();
        test.editTakesEdgesOfLengthAndFill();
        test.editReplacesAllThatStood();
        test.editReplacesMark();
        test.editRefusesWrongInputs();
        test.editNamesFirstException();
        test.editRefusesCounterAbove200();
        test.editRefusesMoreThan300Bytes();
        test.editLeavesReplacedBytesOut();
        test.eraseMakesMark();
        test.eraseOfNothingAndOfMark();
        test.eraseRefuses();
        test.siblingsCountsNoMarks();
        test.siblingsStandInOrder();
        test.counterRefuses();
        test.byteOfAnswersBytes();
        test.byteOfRefuses();
        test.check.end();
    }

    private void newObjectIsEmpty() {
        FolderRounds x = new FolderRounds();
        for (int station = 0; station < 4; station++) {
            int at = station;
            check.due("siblings of new", Check.row(10, d -> x.siblings(at, d)), "0 0 0 0 0 0 0 0 0 0");
            check.due("marks of new", x.marks(station), 0);
            check.due("bytes of new", x.bytes(station), 0);
            check.due("same of new", Check.row(4, b -> x.same(at, b)), "true true true true");
        }
        check.due("room of new", Check.row(3, x::room), "100 100 100");
        check.due("lose of new", Check.row(3, x::lose), "0 0 0");
        check.due("leftOut of new", x.leftOut(), 0);
        for (int station = 0; station < 4; station++) {
            FolderRounds y = new FolderRounds();
            for (int other = 0; other < 4; other++) {
                for (int document = 0; document < 10; document++) {
                    check.due("known of new", Check.known(y, station, other, document), "0 0 0 0");
                }
            }
        }
    }

    private void editMakesVersion() {
        FolderRounds x = new FolderRounds();
        x.edit(2, 9, 3, 17);
        check.due("siblings after edit", x.siblings(2, 9), 1);
        check.due("vector after edit", Check.vector(x, 2, 9, 0), "0 0 1 0");
        check.due("own after edit", Check.known(x, 2, 2, 9), "0 0 1 0");
        check.due("others know nothing", Check.known(x, 0, 2, 9), "0 0 0 0");
        check.due("another document has nothing", x.siblings(2, 8), 0);
        check.due("another station has nothing", x.siblings(1, 9), 0);
        check.due("bytes after edit", x.bytes(2), 3);
        x.edit(2, 9, 40, 0);
        check.due("siblings after two edits", x.siblings(2, 9), 1);
        check.due("vector after two edits", Check.vector(x, 2, 9, 0), "0 0 2 0");
        check.due("bytes after two edits", x.bytes(2), 40);
    }

    private void editTakesEdgesOfLengthAndFill() {
        FolderRounds x = new FolderRounds();
        x.edit(0, 0, 0, 0);
        x.edit(3, 9, 40, 255);
        check.due("length 0", x.byteOf(0, 0, 0, -1), 0);
        check.due("length 0 is a sibling", x.siblings(0, 0), 1);
        check.due("length 40", x.byteOf(3, 9, 0, -1), 40);
        check.due("last byte", x.byteOf(3, 9, 0, 39), 38);
    }

    private void editReplacesAllThatStood() {
        FolderRounds x = Runs.threeSiblings();
        check.due("siblings side by side", x.siblings(2, 3), 3);
        x.edit(2, 3, 4, 4);
        check.due("siblings after edit", x.siblings(2, 3), 1);
        check.due("vector of the edit", Check.vector(x, 2, 3, 0), "1 1 2 0");
        check.due("bytes of the edit", x.bytes(2), 4);
    }

    private void editReplacesMark() {
        FolderRounds x = new FolderRounds();
        x.erase(1, 1);
        x.edit(1, 1, 2, 2);
        check.due("marks after edit", x.marks(1), 0);
        check.due("vector after mark and edit", Check.vector(x, 1, 1, 0), "0 2 0 0");
    }

    private void editRefusesWrongInputs() {
        for (int station : NO_STATION) {
            check.refused("edit at station " + station, NONE, x -> x.edit(station, 0, 1, 1));
        }
        for (int document : NO_DOCUMENT) {
            check.refused("edit of document " + document, NONE, x -> x.edit(0, document, 1, 1));
        }
        for (int length : new int[] {-1, 41, Integer.MIN_VALUE, Integer.MAX_VALUE}) {
            check.refused("edit with length " + length, ILLEGAL, x -> x.edit(0, 0, length, 1));
        }
        for (int fill : new int[] {-1, 256, Integer.MIN_VALUE, Integer.MAX_VALUE}) {
            check.refused("edit with fill " + fill, ILLEGAL, x -> x.edit(0, 0, 1, fill));
        }
    }

    private void editNamesFirstException() {
        check.refused("edit with all wrong", NONE, x -> x.edit(4, 10, 41, 256));
        check.refused("edit of no document with fill 256", NONE, x -> x.edit(3, 10, 40, 256));
        check.refused("edit with length 41 and no room", ILLEGAL, x -> x.edit(3, 9, 41, 0));
        check.refused("edit with fill 256 and counter 200", ILLEGAL,
                x -> Runs.editOften(x, 1, 1, 200), x -> x.edit(1, 1, 0, 256));
    }

    private void editRefusesCounterAbove200() {
        FolderRounds x = new FolderRounds();
        Runs.editOften(x, 1, 1, 200);
        check.due("counter of 200 edits", x.counter(1, 1, 0, 1), 200);
        check.refused("edit with counter 200", UNSUPPORTED,
                y -> Runs.editOften(y, 1, 1, 200), y -> y.edit(1, 1, 0, 0));
        x.edit(1, 2, 1, 1);
        x.edit(0, 1, 1, 1);
        check.due("another document goes on", x.counter(1, 2, 0, 1), 1);
        x.visit(0, 1, 1);
        x.visit(0, 0, 0);
        x.edit(0, 1, 1, 1);
        check.due("another station goes on", Check.vector(x, 0, 1, 0), "2 200 0 0");
    }

    private void editRefusesMoreThan300Bytes() {
        FolderRounds x = new FolderRounds();
        Runs.fill(x, 0, 300);
        check.due("300 bytes stand", x.bytes(0), 300);
        x.edit(0, 9, 0, 0);
        check.due("length 0 fits", x.siblings(0, 9), 1);
        check.refused("edit to 301 bytes", UNSUPPORTED, y -> Runs.fill(y, 0, 300), y -> y.edit(0, 9, 1, 0));
        check.refused("edit to 319 bytes", UNSUPPORTED, y -> Runs.fill(y, 0, 279), y -> y.edit(0, 9, 40, 0));
        check.refused("edit of what stands to 301 bytes", UNSUPPORTED,
                y -> Runs.fill(y, 0, 300), y -> y.edit(0, 7, 21, 0));
    }

    private void editLeavesReplacedBytesOut() {
        FolderRounds x = new FolderRounds();
        Runs.fill(x, 0, 300);
        x.edit(0, 0, 40, 99);
        check.due("bytes after replacing 40 by 40", x.bytes(0), 300);
        check.due("new version stands", x.byteOf(0, 0, 0, 0), 99);
        x.edit(0, 7, 19, 1);
        check.due("bytes after replacing 20 by 19", x.bytes(0), 299);
    }

    private void eraseMakesMark() {
        FolderRounds x = new FolderRounds();
        x.edit(3, 5, 6, 7);
        x.erase(3, 5);
        check.due("siblings after erase", x.siblings(3, 5), 0);
        check.due("marks after erase", x.marks(3), 1);
        check.due("bytes after erase", x.bytes(3), 0);
        check.due("own after erase", Check.known(x, 3, 3, 5), "0 0 0 2");
        FolderRounds y = Runs.threeSiblings();
        y.erase(2, 3);
        check.due("erase replaces all siblings", y.siblings(2, 3), 0);
        check.due("one mark for three siblings", y.marks(2), 1);
        check.due("own after erase of three", Check.known(y, 2, 2, 3), "1 1 2 0");
    }

    private void eraseOfNothingAndOfMark() {
        FolderRounds x = new FolderRounds();
        x.erase(0, 0);
        check.due("mark of nothing", x.marks(0), 1);
        x.erase(0, 0);
        check.due("mark of a mark", x.marks(0), 1);
        check.due("own after two marks", Check.known(x, 0, 0, 0), "2 0 0 0");
        x.erase(0, 9);
        check.due("marks of two documents", x.marks(0), 2);
        Runs.fill(x, 1, 300);
        x.erase(1, 9);
        check.due("mark beside 300 bytes", x.marks(1), 1);
    }

    private void eraseRefuses() {
        for (int station : NO_STATION) {
            check.refused("erase at station " + station, NONE, x -> x.erase(station, 0));
        }
        for (int document : NO_DOCUMENT) {
            check.refused("erase of document " + document, NONE, x -> x.erase(0, document));
        }
        check.refused("erase with counter 200", UNSUPPORTED,
                x -> Runs.editOften(x, 1, 1, 200), x -> x.erase(1, 1));
        FolderRounds x = new FolderRounds();
        Runs.editOften(x, 1, 1, 199);
        x.erase(1, 1);
        check.due("erase as number 200", Check.known(x, 1, 1, 1), "0 200 0 0");
        check.refused("erase with no station and counter 200", NONE,
                y -> Runs.editOften(y, 1, 1, 200), y -> y.erase(1, 10));
    }

    private void siblingsCountsNoMarks() {
        FolderRounds x = Runs.threeSiblings();
        x.erase(3, 3);
        x.visit(1, 3, 4);
        x.visit(1, 2, 0);
        check.due("siblings beside a mark", x.siblings(2, 3), 3);
        check.due("the mark beside siblings", x.marks(2), 1);
        check.due("the mark is not counted as k-th", Check.vector(x, 2, 3, 0), "0 0 1 0");
        check.refused("siblings at station 4", NONE, y -> y.siblings(4, 0));
        check.refused("siblings at station -1", NONE, y -> y.siblings(-1, 0));
        check.refused("siblings of document 10", NONE, y -> y.siblings(0, 10));
        check.refused("siblings of document -1", NONE, y -> y.siblings(0, -1));
    }

    private void siblingsStandInOrder() {
        FolderRounds x = Runs.threeSiblings();
        check.due("0th in order", Check.vector(x, 2, 3, 0), "0 0 1 0");
        check.due("1st in order", Check.vector(x, 2, 3, 1), "0 1 0 0");
        check.due("2nd in order", Check.vector(x, 2, 3, 2), "1 0 0 0");
        check.due("lengths in order", Check.row(3, k -> x.byteOf(2, 3, k, -1)), "3 2 1");
        check.due("first bytes in order", Check.row(3, k -> x.byteOf(2, 3, k, 0)), "30 20 10");
    }

    private void counterRefuses() {
        for (int station : NO_STATION) {
            check.refused("counter at station " + station, NONE, x -> x.counter(station, 0, 0, 0));
        }
        for (int document : NO_DOCUMENT) {
            check.refused("counter of document " + document, NONE, x -> x.counter(0, document, 0, 0));
        }
        for (int k : new int[] {-1, 1, Integer.MIN_VALUE, Integer.MAX_VALUE}) {
            check.refused("counter of version " + k, NONE, x -> x.counter(0, 0, k, 0));
        }
        for (int j : new int[] {-1, 4, Integer.MIN_VALUE, Integer.MAX_VALUE}) {
            check.refused("counter " + j, OUTSIDE, x -> x.counter(0, 0, 0, j));
        }
        check.refused("counter 4 of no version", NONE, x -> x.counter(0, 0, 1, 4));
        check.refused("counter of a mark", NONE, x -> x.counter(2, 9, 0, 0));
    }

    private void byteOfAnswersBytes() {
        FolderRounds x = new FolderRounds();
        x.edit(0, 3, 5, 253);
        check.due("bytes past 255", Check.row(5, i -> x.byteOf(0, 3, 0, i)), "253 254 255 0 1");
        check.due("length", x.byteOf(0, 3, 0, -1), 5);
    }

    private void byteOfRefuses() {
        for (int station : NO_STATION) {
            check.refused("byteOf at station " + station, NONE, x -> x.byteOf(station, 0, 0, -1));
        }
        for (int document : NO_DOCUMENT) {
            check.refused("byteOf of document " + document, NONE, x -> x.byteOf(0, document, 0, -1));
        }
        for (int k : new int[] {-1, 1, Integer.MIN_VALUE, Integer.MAX_VALUE}) {
            check.refused("byteOf of version " + k, NONE, x -> x.byteOf(0, 0, k, -1));
        }
        for (int i : new int[] {-2, 7, Integer.MIN_VALUE, Integer.MAX_VALUE}) {
            check.refused("byteOf with i " + i, OUTSIDE, x -> x.byteOf(0, 0, 0, i));
        }
        check.refused("byte 0 of length 0", OUTSIDE, x -> x.edit(0, 0, 0, 5), x -> x.byteOf(0, 0, 0, 0));
        check.refused("byte -2 of no version", NONE, x -> x.byteOf(0, 0, 1, -2));
        check.refused("byteOf of a mark", NONE, x -> x.byteOf(2, 9, 0, -1));
    }
}
