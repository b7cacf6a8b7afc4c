import java.util.NoSuchElementException;

/** Edges that promises 1 to 17 name, a test for each sentence; what is refused stands in RefusalTest, too. */
public final class PromiseEdgeTest {
    private static final Class<NoSuchElementException> NONE = NoSuchElementException.class;
    private static final Class<IllegalArgumentException> ILLEGAL = IllegalArgumentException.class;
    private static final Class<UnsupportedOperationException> UNSUPPORTED = UnsupportedOperationException.class;
    private static final Class<IndexOutOfBoundsException> OUTSIDE = IndexOutOfBoundsException.class;
    private static final String TEN_ZEROS = "0 0 0 0 0 0 0 0 0 0";

    private final Check check = new Check("PromiseEdgeTest");

    public static void main(String[] args) {
        PromiseEdgeTest test = new PromiseEdgeTest();
        test.newObjectHasNothing();
        test.newObjectsShareNothing();
        test.editTakesLengths0To40();
        test.editTakesFills0To255();
        test.editTakesCounter199();
        test.editIsRefusedFor301Bytes();
        test.editLeavesOutAllThatItReplaces();
        test.eraseOfNothing();
        test.eraseOfMark();
        test.eraseIsNeverTooLarge();
        test.eraseTakesCounter199();
        test.siblingsOfNoBytesAndNoMarks();
        test.siblingsAreAtMostFour();
        test.counterOfTheLastVersion();
        test.counterPassesMarks();
        test.byteOfEachLength();
        test.visitLooksAtFourBits();
        test.visitForNobody();
        test.cutAnswers0IfItWasOverBefore();
        test.cutBelow0();
        test.loseOfEmptyAndFull();
        test.copyOfEmptyAndFull();
        test.copyFromItself();
        test.knownOfItselfIsItsOwn();
        test.marksFromNoneTo40();
        test.bytesFromNoneTo300();
        test.sameOfNone();
        test.sameOfItself();
        test.sameLooksAtNoBytes();
        test.sameLooksAtNoMarks();
        test.sameLooksAtEachCounter();
        test.roomFrom100To0();
        test.itemOfFirstAndLast();
        test.itemOfEmpty();
        test.leftOutFromNone();
        test.check.end();
    }

    // Promise 1: "No versions; all cartridges are empty."
    private void newObjectHasNothing() {
        FolderRounds x = new FolderRounds();
        for (int station = 0; station < 4; station++) {
            int at = station;
            check.due("siblings", Check.row(10, d -> x.siblings(at, d)), TEN_ZEROS);
            check.due("marks and bytes", x.marks(station) + x.bytes(station), 0);
            check.due("nothing to load", x.visit(0, station, -1), 0);
        }
        check.due("rooms", Check.row(3, x::room), "100 100 100");
        check.due("items", Check.row(3, c -> Check.thrownBy(x, y -> y.item(c, 0, 0)) == NONE), "true true true");
    }

    private void newObjectsShareNothing() {
        FolderRounds x = new FolderRounds();
        State.RICH.accept(x);
        FolderRounds y = new FolderRounds();
        check.due("left out there", x.leftOut() > 0, true);
        check.due("left out here", y.leftOut(), 0);
        check.due("bytes here", Check.row(4, y::bytes), "0 0 0 0");
        check.due("rooms here", Check.row(3, y::room), "100 100 100");
    }

    // Promise 2: "IllegalArgumentException when length is not 0 .. 40"
    private void editTakesLengths0To40() {
        for (int length = 0; length <= 40; length++) {
            FolderRounds x = new FolderRounds();
            x.edit(2, 4, length, 7);
            check.due("length " + length, x.byteOf(2, 4, 0, -1), length);
            check.due("bytes of length " + length, x.bytes(2), length);
        }
        FolderRounds x = new FolderRounds();
        check.due("length -1", Check.thrownBy(x, y -> y.edit(2, 4, -1, 7)), ILLEGAL);
        check.due("length 41", Check.thrownBy(x, y -> y.edit(2, 4, 41, 7)), ILLEGAL);
        check.due("nothing stands", x.siblings(2, 4), 0);
    }

    // "or fill not 0 .. 255"
    private void editTakesFills0To255() {
        FolderRounds x = new FolderRounds();
        x.edit(0, 0, 1, 0);
        x.edit(0, 1, 1, 255);
        check.due("fill 0", x.byteOf(0, 0, 0, 0), 0);
        check.due("fill 255", x.byteOf(0, 1, 0, 0), 255);
        check.due("fill -1", Check.thrownBy(x, y -> y.edit(0, 0, 1, -1)), ILLEGAL);
        check.due("fill 256", Check.thrownBy(x, y -> y.edit(0, 0, 1, 256)), ILLEGAL);
        check.due("fill 256 of no bytes", Check.thrownBy(x, y -> y.edit(0, 0, 0, 256)), ILLEGAL);
        check.due("what stood stands", Check.vector(x, 0, 0, 0), "1 0 0 0");
    }

    // "UnsupportedOperationException when the counter is 200"
    private void editTakesCounter199() {
        FolderRounds x = new FolderRounds();
        Runs.editOften(x, 3, 0, 199);
        x.edit(3, 0, 2, 2);
        check.due("edit with counter 199", x.byteOf(3, 0, 0, -1), 2);
        check.due("edit with counter 200", Check.thrownBy(x, y -> y.edit(3, 0, 3, 3)), UNSUPPORTED);
        check.due("what stood stands", x.byteOf(3, 0, 0, -1), 2);
        x.edit(3, 1, 1, 1);
        check.due("of another document", Check.vector(x, 3, 1, 0), "0 0 0 1");
        Runs.carry(x, 0, 3, 2);
        x.edit(2, 0, 4, 4);
        check.due("at another station", Check.vector(x, 2, 0, 0), "0 0 1 200");
        Runs.carry(x, 0, 2, 3);
        check.due("the other's comes back", x.byteOf(3, 0, 0, -1), 4);
        check.due("the counter is still 200", Check.thrownBy(x, y -> y.edit(3, 0, 1, 1)), UNSUPPORTED);
    }

    // "or there would be more than 300 bytes (all that it replaces left out)"
    private void editIsRefusedFor301Bytes() {
        FolderRounds x = new FolderRounds();
        Runs.fill(x, 0, 280);
        check.due("21 more", Check.thrownBy(x, y -> y.edit(0, 7, 21, 1)), UNSUPPORTED);
        check.due("nothing stands of it", x.siblings(0, 7), 0);
        check.due("own", Check.known(x, 0, 0, 7), "0 0 0 0");
        check.due("it is not counted as left out", x.leftOut(), 0);
        x.edit(0, 7, 20, 1);
        check.due("20 more", x.bytes(0), 300);
        x.edit(0, 8, 0, 1);
        check.due("none more", Check.vector(x, 0, 8, 0), "1 0 0 0");
    }

    private void editLeavesOutAllThatItReplaces() {
        FolderRounds x = new FolderRounds();
        x.edit(1, 9, 20, 1);
        x.edit(0, 9, 19, 2);
        Runs.carry(x, 0, 1, 0);
        Runs.fill(x, 0, 261);
        check.due("full with two siblings", x.bytes(0) * 10 + x.siblings(0, 9), 3002);
        check.due("40 for 39", Check.thrownBy(x, y -> y.edit(0, 9, 40, 3)), UNSUPPORTED);
        check.due("both stand", x.siblings(0, 9), 2);
        x.edit(0, 9, 39, 3);
        check.due("39 for 39", x.bytes(0) * 10 + x.siblings(0, 9), 3001);
        x.erase(0, 9);
        x.edit(0, 9, 39, 4);
        check.due("39 for a mark", x.bytes(0), 300);
    }

    // Promise 3: "A mark is made at a station (also of a document that has nothing there, or a mark)."
    private void eraseOfNothing() {
        for (int station = 0; station < 4; station++) {
            FolderRounds x = new FolderRounds();
            for (int document = 0; document < 10; document++) {
                x.erase(station, document);
                check.due("marks", x.marks(station), document + 1);
                check.due("own", x.known(station, station, document, station), 1);
            }
        }
    }

    private void eraseOfMark() {
        FolderRounds x = new FolderRounds();
        x.erase(0, 0);
        x.erase(1, 0);
        Runs.carry(x, 0, 1, 0);
        check.due("two marks", x.marks(0), 2);
        x.erase(0, 0);
        check.due("one for both", x.marks(0), 1);
        check.due("own", Check.known(x, 0, 0, 0), "2 1 0 0");
    }

    private void eraseIsNeverTooLarge() {
        FolderRounds x = new FolderRounds();
        Runs.fill(x, 0, 300);
        x.erase(0, 9);
        x.erase(0, 0);
        check.due("marks", x.marks(0), 2);
        check.due("bytes", x.bytes(0), 260);
    }

    // "UnsupportedOperationException when the counter is 200."
    private void eraseTakesCounter199() {
        FolderRounds x = new FolderRounds();
        for (int i = 0; i < 199; i++) {
            x.erase(2, 3);
        }
        check.due("199 times", Check.known(x, 2, 2, 3), "0 0 199 0");
        x.erase(2, 3);
        check.due("200 times", Check.known(x, 2, 2, 3), "0 0 200 0");
        check.due("erase with counter 200", Check.thrownBy(x, y -> y.erase(2, 3)), UNSUPPORTED);
        check.due("edit with counter 200", Check.thrownBy(x, y -> y.edit(2, 3, 0, 0)), UNSUPPORTED);
        check.due("one mark", x.marks(2), 1);
    }

    // Promise 4: "How many versions with bytes (also none of them; no marks) stand."
    private void siblingsOfNoBytesAndNoMarks() {
        FolderRounds x = new FolderRounds();
        check.due("nothing", x.siblings(0, 5), 0);
        x.edit(0, 5, 0, 0);
        check.due("no bytes", x.siblings(0, 5), 1);
        x.erase(1, 5);
        Runs.carry(x, 0, 1, 0);
        check.due("beside a mark", x.siblings(0, 5), 1);
        x.erase(0, 5);
        check.due("a mark alone", x.siblings(0, 5), 0);
    }

    private void siblingsAreAtMostFour() {
        FolderRounds x = new FolderRounds();
        for (int i = 0; i < 12; i++) {
            x.edit(i % 4, 5, i % 4 * 10, 0);
        }
        Runs.goRound(x, 0, 2);
        check.due("siblings", Check.row(4, s -> x.siblings(s, 5)), "4 4 4 4");
        check.due("the 0th", Check.vector(x, 0, 5, 0), "0 0 0 3");
        check.due("the last", Check.vector(x, 0, 5, 3), "3 0 0 0");
    }

    // Promise 5: "Counter j of the k-th of these, in order."
    private void counterOfTheLastVersion() {
        FolderRounds x = Runs.threeSiblings();
        check.due("the 0th", x.counter(2, 3, 0, 2), 1);
        check.due("the last", x.counter(2, 3, 2, 0), 1);
        check.due("the last counter", x.counter(2, 3, 2, 3), 0);
        check.due("one behind the last", Check.thrownBy(x, y -> y.counter(2, 3, 3, 0)), NONE);
        check.due("one before the 0th", Check.thrownBy(x, y -> y.counter(2, 3, -1, 0)), NONE);
        check.due("counter 4", Check.thrownBy(x, y -> y.counter(2, 3, 2, 4)), OUTSIDE);
        check.due("counter -1", Check.thrownBy(x, y -> y.counter(2, 3, 2, -1)), OUTSIDE);
        check.due("counter 4 of one behind the last", Check.thrownBy(x, y -> y.counter(2, 3, 3, 4)), NONE);
    }

    private void counterPassesMarks() {
        FolderRounds x = new FolderRounds();
        x.edit(0, 3, 1, 1);
        x.erase(1, 3);
        x.edit(2, 3, 2, 2);
        Runs.carry(x, 0, 0, 2);
        Runs.carry(x, 0, 1, 2);
        check.due("before the mark", Check.vector(x, 2, 3, 0), "0 0 1 0");
        check.due("behind the mark", Check.vector(x, 2, 3, 1), "1 0 0 0");
        check.due("bytes behind the mark", x.byteOf(2, 3, 1, 0), 1);
        check.due("no third", Check.thrownBy(x, y -> y.counter(2, 3, 2, 0)), NONE);
    }

    // Promise 6: "Byte i of the k-th of these; its length for i = -1."
    private void byteOfEachLength() {
        for (int length = 0; length <= 40; length++) {
            FolderRounds x = new FolderRounds();
            int behind = length;
            x.edit(0, 0, length, 100);
            check.due("length", x.byteOf(0, 0, 0, -1), length);
            check.due("before the length", Check.thrownBy(x, y -> y.byteOf(0, 0, 0, -2)), OUTSIDE);
            check.due("behind the last", Check.thrownBy(x, y -> y.byteOf(0, 0, 0, behind)), OUTSIDE);
            if (length > 0) {
                check.due("the last of " + length, x.byteOf(0, 0, 0, length - 1), 99 + length);
            }
        }
    }

    // Promise 7: "destinations are bits of stations (others, and the station's own, are not looked at"
    private void visitLooksAtFourBits() {
        for (int station = 0; station < 4; station++) {
            FolderRounds x = new FolderRounds();
            int at = station;
            x.edit(station, 0, 1, 1);
            check.due("each bit at " + at, Check.row(32, bit -> x.visit(0, at, 1 << bit)),
                    Check.row(32, bit -> bit < 4 && bit != at ? 1 : 0));
            check.due("all but the four", x.visit(0, station, ~15), 0);
            check.due("all but the others", x.visit(0, station, ~15 | 1 << station), 0);
            check.due("all", x.visit(0, station, -1), 1);
        }
    }

    // "0: nothing is loaded): how many versions were loaded"
    private void visitForNobody() {
        FolderRounds x = Runs.threeOnCartridge();
        check.due("unloaded ones are not counted", x.visit(0, 1, 0), 0);
        check.due("they stand", Check.row(3, d -> x.siblings(1, d)), "1 1 1");
        check.due("the row is empty", x.room(0), 100);
    }

    // Promise 8: "how many were loaded (0, if it was over before)"
    private void cutAnswers0IfItWasOverBefore() {
        for (int n = 0; n <= 3; n++) {
            FolderRounds x = Runs.threeOnCartridge();
            check.due("cut after " + n + " of 3", x.cut(0, 1, 15, n), 0);
        }
        FolderRounds x = Runs.threeOnCartridge();
        check.due("cut after 4", x.cut(0, 1, 15, 4), 1);
    }

    // "IllegalArgumentException when n is below 0."
    private void cutBelow0() {
        FolderRounds x = Runs.threeOnCartridge();
        check.due("-1", Check.thrownBy(x, y -> y.cut(0, 1, 15, -1)), ILLEGAL);
        check.due("the least", Check.thrownBy(x, y -> y.cut(0, 1, 15, Integer.MIN_VALUE)), ILLEGAL);
        check.due("-1 with nothing to do", Check.thrownBy(x, y -> y.cut(1, 3, 0, -1)), ILLEGAL);
        check.due("the row is as before", x.lose(0), 3);
    }

    // Promise 9: "A cartridge is empty, its table has zeros: how many versions it had."
    private void loseOfEmptyAndFull() {
        for (int cartridge = 0; cartridge < 3; cartridge++) {
            FolderRounds x = new FolderRounds();
            check.due("empty", x.lose(cartridge), 0);
            for (int i = 0; i < 20; i++) {
                x.erase(i % 2, i / 2);
            }
            Runs.carry(x, cartridge, 0, 1);
            check.due("loaded", x.visit(cartridge, 1, 4), 12);
            check.due("full", x.lose(cartridge), 12);
            check.due("room", x.room(cartridge), 100);
            check.due("empty again", x.lose(cartridge), 0);
            x.visit(cartridge, 3, 0);
            check.due("nothing is learned", Check.row(10, d -> x.known(3, 1, d, 1)), TEN_ZEROS);
        }
    }

    // Promise 10: "A cartridge becomes what another one is (row and table; what it had is gone"
    private void copyOfEmptyAndFull() {
        FolderRounds x = Runs.threeOnCartridge();
        x.copy(0, 2);
        check.due("as the other", x.room(2), x.room(0));
        x.copy(1, 2);
        check.due("empty as the other", x.lose(2), 0);
        x.visit(2, 3, 0);
        check.due("its table has zeros", Check.row(10, d -> x.known(3, 0, d, 0)), TEN_ZEROS);
        x.copy(0, 1);
        x.lose(0);
        x.visit(1, 3, 0);
        check.due("a copy is left of what is lost", Check.row(3, d -> x.siblings(3, d)), "1 1 1");
        check.due("and its table", Check.row(3, d -> x.known(3, 0, d, 0)), "1 1 1");
    }

    // "from may be to)"
    private void copyFromItself() {
        for (int cartridge = 0; cartridge < 3; cartridge++) {
            FolderRounds x = new FolderRounds();
            x.copy(cartridge, cartridge);
            check.due("empty", x.room(cartridge), 100);
            x.edit(0, 0, 5, 5);
            x.visit(cartridge, 0, 2);
            x.copy(cartridge, cartridge);
            check.due("row", Check.item(x, cartridge, 0), "0 5 1 0 0 0");
            check.due("room", x.room(cartridge), 87);
            x.visit(cartridge, 3, 0);
            check.due("table", x.known(3, 0, 0, 0), 1);
        }
    }

    // Promise 11: "Counter j of what a station knows that another one (or, of itself, its own) had."
    private void knownOfItselfIsItsOwn() {
        for (int station = 0; station < 4; station++) {
            FolderRounds x = new FolderRounds();
            int at = station;
            x.edit(station, 9, 1, 1);
            check.due("own", Check.row(4, j -> x.known(at, at, 9, j)), Check.row(4, j -> j == at ? 1 : 0));
            check.due("of others", Check.row(4, s -> s == at ? 0 : x.known(at, s, 9, at)), "0 0 0 0");
            check.due("at others", Check.row(4, s -> s == at ? 0 : x.known(s, at, 9, at)), "0 0 0 0");
            check.due("j of 4", Check.thrownBy(x, y -> y.known(at, at, 9, 4)), OUTSIDE);
            check.due("j of -1", Check.thrownBy(x, y -> y.known(at, at, 9, -1)), OUTSIDE);
        }
    }

    // Promise 12: "How many marks stand at a station."
    private void marksFromNoneTo40() {
        FolderRounds x = new FolderRounds();
        check.due("none", x.marks(0), 0);
        for (int i = 0; i < 40; i++) {
            x.erase(i % 4, i / 4);
        }
        for (int i = 0; i < 3; i++) {
            Runs.carry(x, i, i + 1, 0);
        }
        check.due("four of each document", x.marks(0), 40);
        for (int document = 0; document < 10; document++) {
            x.edit(0, document, 0, 0);
        }
        check.due("none again", x.marks(0), 0);
    }

    // Promise 13: "How many bytes all that stands has."
    private void bytesFromNoneTo300() {
        FolderRounds x = new FolderRounds();
        check.due("none", x.bytes(1), 0);
        x.edit(1, 9, 0, 0);
        x.erase(1, 8);
        check.due("of no bytes and a mark", x.bytes(1), 0);
        Runs.fill(x, 1, 300);
        check.due("full", x.bytes(1), 300);
        for (int document = 0; document < 8; document++) {
            x.erase(1, document);
        }
        check.due("none again", x.bytes(1), 0);
    }

    // Promise 14: "(marks aside; none at both: true)"
    private void sameOfNone() {
        FolderRounds x = new FolderRounds();
        x.edit(0, 0, 1, 1);
        check.due("none at one", x.same(0, 1) || x.same(1, 0), false);
        check.due("none at both", x.same(1, 2) && x.same(2, 3), true);
        x.erase(0, 0);
        check.due("none again", x.same(0, 1) && x.same(1, 0), true);
    }

    private void sameOfItself() {
        FolderRounds x = new FolderRounds();
        State.RICH.accept(x);
        check.due("each with itself", Check.row(4, s -> x.same(s, s)), "true true true true");
    }

    private void sameLooksAtNoBytes() {
        FolderRounds x = new FolderRounds();
        x.edit(0, 9, 0, 0);
        check.due("one of no bytes at one", x.same(0, 1) || x.same(1, 0), false);
        x.edit(1, 9, 0, 0);
        check.due("of other vectors", x.same(0, 1), false);
        Runs.carry(x, 0, 0, 1);
        Runs.carry(x, 0, 1, 0);
        check.due("both at both", x.same(0, 1), true);
    }

    private void sameLooksAtNoMarks() {
        FolderRounds x = Runs.threeSiblings();
        Runs.carry(x, 1, 2, 3);
        check.due("before", x.same(2, 3), true);
        x.erase(2, 0);
        x.erase(2, 9);
        x.erase(3, 5);
        check.due("marks before and behind", x.same(2, 3) && x.same(3, 2), true);
        x.erase(0, 3);
        Runs.carry(x, 1, 0, 3);
        check.due("a mark for one of three", x.same(2, 3) || x.same(3, 2), false);
        Runs.carry(x, 1, 3, 2);
        check.due("at both", x.same(2, 3), true);
    }

    // "the same versions with bytes, of all documents"
    private void sameLooksAtEachCounter() {
        for (int station = 0; station < 4; station++) {
            FolderRounds x = new FolderRounds();
            int other = (station + 1) % 4;
            for (int document = 0; document < 10; document++) {
                x.edit(station, document, 1, 1);
            }
            Runs.carry(x, 0, station, other);
            check.due("all of them", x.same(station, other), true);
            x.edit(station, 9, 1, 1);
            check.due("one counter of the last is 1 more", x.same(station, other), false);
            check.due("turned", x.same(other, station), false);
        }
    }

    // Promise 15: "How much room a cartridge has left."
    private void roomFrom100To0() {
        FolderRounds x = new FolderRounds();
        int[] lengths = {40, 40, 3, 1, 0};
        int[] rooms = {52, 4, 4, 4, 4};
        check.due("empty", x.room(1), 100);
        for (int document = 0; document < lengths.length; document++) {
            x.edit(0, document, lengths[document], 0);
            x.visit(1, 0, 2);
            check.due("with " + (document + 1), x.room(1), rooms[document]);
        }
        x.edit(0, 1, 36, 0);
        x.visit(1, 0, 2);
        check.due("those of the least sum first", x.room(1), 100 - 48 - 11 - 9 - 8);
        x.visit(1, 1, 0);
        check.due("unloaded", x.room(1), 100);
        FolderRounds y = new FolderRounds();
        y.edit(0, 0, 40, 0);
        y.edit(0, 1, 36, 0);
        y.erase(0, 2);
        y.visit(1, 0, 2);
        check.due("full", y.room(1), 0);
    }

    // Promise 16: "0 its document, 1 its length (-1 of a mark), 2 .. 5 its counters"
    private void itemOfFirstAndLast() {
        FolderRounds x = new FolderRounds();
        x.edit(3, 0, 40, 0);
        x.edit(3, 1, 0, 0);
        x.erase(3, 9);
        x.visit(2, 3, 1);
        check.due("the 0th", Check.item(x, 2, 0), "0 40 0 0 0 1");
        check.due("of no bytes", Check.item(x, 2, 1), "1 0 0 0 0 1");
        check.due("the last, a mark", Check.item(x, 2, 2), "9 -1 0 0 0 1");
        check.due("one behind the last", Check.thrownBy(x, y -> y.item(2, 3, 0)), NONE);
        check.due("one before the 0th", Check.thrownBy(x, y -> y.item(2, -1, 0)), NONE);
        check.due("what 6", Check.thrownBy(x, y -> y.item(2, 2, 6)), OUTSIDE);
        check.due("what -1", Check.thrownBy(x, y -> y.item(2, 2, -1)), OUTSIDE);
    }

    // "NoSuchElementException (the version, too)"
    private void itemOfEmpty() {
        FolderRounds x = new FolderRounds();
        for (int cartridge = 0; cartridge < 3; cartridge++) {
            int at = cartridge;
            check.due("the 0th", Check.thrownBy(x, y -> y.item(at, 0, 0)), NONE);
            check.due("the 0th with what 6", Check.thrownBy(x, y -> y.item(at, 0, 6)), NONE);
        }
    }

    // Promise 17: "How many versions were left out in all."
    private void leftOutFromNone() {
        FolderRounds x = new FolderRounds();
        check.due("none", x.leftOut(), 0);
        for (int station = 1; station < 4; station++) {
            Runs.fill(x, station, 300);
        }
        for (int document = 0; document < 10; document++) {
            x.edit(0, document, document < 9 ? 1 : 0, 0);
        }
        x.visit(0, 0, 14);
        check.due("ten are loaded", x.lose(0), 10);
        for (int station = 1; station < 4; station++) {
            x.visit(0, 0, 1 << station);
            x.visit(0, station, 0);
            check.due("nine of ten at each", x.leftOut(), 9 * station);
        }
    }
}
