/** Edges that the document names before a visit is told, a test for each sentence, which stands above it. */
public final class TermsEdgeTest {
    private static final Class<UnsupportedOperationException> UNSUPPORTED = UnsupportedOperationException.class;

    private final Check check = new Check("TermsEdgeTest");

    public static void main(String[] args) {
        TermsEdgeTest test = new TermsEdgeTest();
        test.call512Answers();
        test.everyStationAndDocumentIsThere();
        test.everyCartridgeIsThere();
        test.countersGoTo200();
        test.countersOf200StandInOneVector();
        test.equalVectorCovers();
        test.oneCounterLessDoesNotCover();
        test.joinTakesTheGreaterOfEach();
        test.bytesBeginAgainBehind255();
        test.noBytesAreNoMark();
        test.orderGoesOnBehindEqualCounters();
        test.orderIsOfNumbers();
        test.noneThatStandsCoversAnother();
        test.zerosAreKnownAtFirst();
        test.stationsHold300Bytes();
        test.siblingsShareThe300Bytes();
        test.nothingComesOfWhatOwnCovers();
        test.nothingComesOfWhatWasErased();
        test.severalAreReplacedAtOnce();
        test.justSoManyBytesStand();
        test.oneByteMoreIsLeftOut();
        test.editingGoesOnBehindDroppedMark();
        test.check.end();
    }

    // "An object is used for at most 512 calls after it has been made"
    private void call512Answers() {
        FolderRounds x = new FolderRounds();
        for (int i = 0; i < 400; i++) {
            x.edit(i % 2, 0, 1, i % 256);
        }
        for (int i = 0; i < 109; i++) {
            x.erase(2, i % 10);
        }
        x.visit(0, 0, 2);
        x.visit(0, 1, 0);
        check.due("call 512", x.counter(1, 0, 1, 0), 200);
    }

    // "STATIONS are 0 .. 3, DOCUMENTS 0 .. 9"
    private void everyStationAndDocumentIsThere() {
        for (int station = 0; station < 4; station++) {
            FolderRounds x = new FolderRounds();
            int at = station;
            for (int document = 0; document < 10; document++) {
                x.edit(station, document, document, 100 + document);
            }
            check.due("siblings at " + at, Check.row(10, d -> x.siblings(at, d)), "1 1 1 1 1 1 1 1 1 1");
            check.due("lengths at " + at, Check.row(10, d -> x.byteOf(at, d, 0, -1)), "0 1 2 3 4 5 6 7 8 9");
            check.due("elsewhere than " + at, Check.row(4, s -> s == at || x.bytes(s) == 0), "true true true true");
        }
    }

    // "CARTRIDGES 0 .. 2"
    private void everyCartridgeIsThere() {
        String[] rooms = {"91 100 100", "100 91 100", "100 100 91"};
        for (int cartridge = 0; cartridge < 3; cartridge++) {
            FolderRounds x = new FolderRounds();
            x.edit(3, 9, 1, 1);
            check.due("loaded on " + cartridge, x.visit(cartridge, 3, 1), 1);
            check.due("rooms", Check.row(3, x::room), rooms[cartridge]);
        }
    }

    // "A VECTOR has four counters 0 .. 200, one for each station."
    private void countersGoTo200() {
        for (int station = 0; station < 4; station++) {
            FolderRounds x = new FolderRounds();
            int to = (station + 1) % 4;
            Runs.editOften(x, station, 9, 199);
            check.due("counter 199", x.counter(station, 9, 0, station), 199);
            x.edit(station, 9, 1, 1);
            int at = station;
            check.due("edit number 201", Check.thrownBy(x, y -> y.edit(at, 9, 1, 1)), UNSUPPORTED);
            check.due("counter 200", x.counter(station, 9, 0, station), 200);
            Runs.carry(x, 0, station, to);
            check.due("carried", x.counter(to, 9, 0, station), 200);
            x.edit(to, 9, 1, 1);
            check.due("kept by the next one", x.counter(to, 9, 0, station), 200);
            check.due("who counts for itself", x.counter(to, 9, 0, to), 1);
        }
    }

    private void countersOf200StandInOneVector() {
        FolderRounds x = new FolderRounds();
        Runs.editOften(x, 0, 0, 200);
        Runs.carry(x, 0, 0, 1);
        Runs.editOften(x, 1, 0, 200);
        x.edit(1, 9, 1, 1);
        check.due("loaded", x.visit(1, 1, 8), 2);
        check.due("the least sum first", Check.item(x, 1, 0), "9 1 0 1 0 0");
        check.due("twice 200", Check.item(x, 1, 1), "0 1 200 200 0 0");
        x.visit(1, 3, 0);
        check.due("stands", Check.vector(x, 3, 0, 0), "200 200 0 0");
        check.due("own", Check.known(x, 3, 3, 0), "200 200 0 0");
    }

    // "It COVERS another one, if none of its counters is less."
    private void equalVectorCovers() {
        FolderRounds x = new FolderRounds();
        x.edit(0, 0, 1, 1);
        x.visit(0, 0, 2);
        x.copy(0, 1);
        x.visit(0, 1, 0);
        x.visit(1, 1, 0);
        check.due("the same one again", x.siblings(1, 0), 1);
        check.due("nothing is lacked", x.visit(2, 1, 1), 0);
    }

    private void oneCounterLessDoesNotCover() {
        for (int one = 0; one < 4; one++) {
            for (int other = 0; other < 4; other++) {
                if (one != other) {
                    makeTwoAfterOne(one, other);
                }
            }
        }
    }

    private void makeTwoAfterOne(int one, int other) {
        FolderRounds x = new FolderRounds();
        x.edit(one, 0, 1, 1);
        Runs.carry(x, 0, one, other);
        x.edit(one, 0, 2, 2);
        x.edit(other, 0, 3, 3);
        Runs.carry(x, 0, one, other);
        check.due("of " + one + " at " + other + " side by side", x.siblings(other, 0), 2);
        Runs.carry(x, 0, other, one);
        check.due("of " + other + " at " + one + " side by side", x.siblings(one, 0), 2);
        check.due("same", x.same(one, other), true);
    }

    // "The JOIN of two takes the greater of each."
    private void joinTakesTheGreaterOfEach() {
        FolderRounds x = new FolderRounds();
        x.edit(0, 5, 1, 1);
        Runs.carry(x, 0, 0, 1);
        x.edit(1, 5, 1, 1);
        x.edit(1, 5, 1, 1);
        x.edit(0, 5, 1, 1);
        x.edit(0, 5, 1, 1);
        Runs.carry(x, 0, 0, 2);
        check.due("before", Check.known(x, 2, 2, 5), "3 0 0 0");
        Runs.carry(x, 1, 1, 2);
        check.due("joined", Check.known(x, 2, 2, 5), "3 2 0 0");
        check.due("those that stand are not joined", Check.vector(x, 2, 5, 0), "1 2 0 0");
        x.edit(2, 5, 1, 1);
        check.due("the next one is", Check.vector(x, 2, 5, 0), "3 2 1 0");
    }

    // "either bytes, 0 .. 40 of them, byte i being (fill + i) modulo 256"
    private void bytesBeginAgainBehind255() {
        for (int fill = 0; fill < 256; fill++) {
            FolderRounds x = new FolderRounds();
            x.edit(1, 1, 40, fill);
            int from = fill;
            check.due("bytes from " + fill, Check.row(40, i -> x.byteOf(1, 1, 0, i)),
                    Check.row(40, i -> from + i < 256 ? from + i : from + i - 256));
        }
    }

    // "or none: a MARK, by which the document was erased"
    private void noBytesAreNoMark() {
        FolderRounds x = new FolderRounds();
        x.edit(0, 0, 0, 255);
        check.due("no bytes: siblings and marks", x.siblings(0, 0) * 10 + x.marks(0), 10);
        x.visit(0, 0, 2);
        check.due("no bytes on a cartridge", Check.item(x, 0, 0), "0 0 1 0 0 0");
        x.erase(0, 0);
        check.due("a mark: siblings and marks", x.siblings(0, 0) * 10 + x.marks(0), 1);
        x.visit(0, 0, 2);
        check.due("a mark on a cartridge", Check.item(x, 0, 0), "0 -1 2 0 0 0");
    }

    // "Vectors of a document are in ORDER by their first counter, then by the second, and so on."
    private void orderGoesOnBehindEqualCounters() {
        FolderRounds x = new FolderRounds();
        x.edit(0, 6, 1, 1);
        Runs.goRound(x, 0, 1);
        for (int station = 0; station < 4; station++) {
            x.edit(station, 6, 2 + station, 1);
        }
        Runs.goRound(x, 0, 2);
        for (int station = 0; station < 4; station++) {
            int at = station;
            check.due("all four", x.siblings(station, 6), 4);
            check.due("0th", Check.vector(x, station, 6, 0), "1 0 0 1");
            check.due("1st", Check.vector(x, station, 6, 1), "1 0 1 0");
            check.due("2nd", Check.vector(x, station, 6, 2), "1 1 0 0");
            check.due("3rd", Check.vector(x, station, 6, 3), "2 0 0 0");
            check.due("lengths", Check.row(4, k -> x.byteOf(at, 6, k, -1)), "5 4 3 2");
        }
    }

    private void orderIsOfNumbers() {
        for (int edits : new int[] {9, 99, 127, 199}) {
            FolderRounds x = new FolderRounds();
            Runs.editOften(x, 0, 6, edits);
            Runs.carry(x, 0, 0, 1);
            x.edit(1, 6, 1, 1);
            x.edit(0, 6, 1, 1);
            Runs.carry(x, 0, 0, 1);
            check.due("0th after " + edits, Check.vector(x, 1, 6, 0), edits + " 1 0 0");
            check.due("1st after " + edits, Check.vector(x, 1, 6, 1), edits + 1 + " 0 0 0");
        }
    }

    // "versions that STAND, none of which covers another one"
    private void noneThatStandsCoversAnother() {
        FolderRounds x = Runs.threeSiblings();
        Runs.carry(x, 1, 0, 1);
        x.edit(1, 3, 4, 4);
        Runs.carry(x, 1, 1, 2);
        check.due("one replaces two of three", x.siblings(2, 3), 2);
        check.due("0th", Check.vector(x, 2, 3, 0), "0 0 1 0");
        check.due("1st", Check.vector(x, 2, 3, 1), "1 2 0 0");
    }

    // "for each station and document, what it KNOWS that this one had: a vector (of zeros at first)"
    private void zerosAreKnownAtFirst() {
        for (int station = 0; station < 4; station++) {
            FolderRounds x = new FolderRounds();
            int at = station;
            for (int j = 0; j < 4; j++) {
                int counter = j;
                check.due("counter " + j + " at " + at, Check.row(40, i -> x.known(at, i / 10, i % 10, counter)),
                        Check.row(40, i -> 0));
            }
        }
    }

    // "Bytes of all that stands at a station are at most 300 together."
    private void stationsHold300Bytes() {
        for (int station = 0; station < 4; station++) {
            FolderRounds x = new FolderRounds();
            int at = station;
            Runs.fill(x, station, 299);
            x.edit(station, 8, 1, 1);
            check.due("bytes at " + at, x.bytes(station), 300);
            check.due("one more at " + at, Check.thrownBy(x, y -> y.edit(at, 9, 1, 1)), UNSUPPORTED);
            check.due("bytes are as before", x.bytes(station), 300);
        }
    }

    private void siblingsShareThe300Bytes() {
        FolderRounds x = new FolderRounds();
        Runs.fill(x, 0, 260);
        x.edit(1, 0, 40, 1);
        Runs.carry(x, 0, 1, 0);
        check.due("siblings", x.siblings(0, 0), 2);
        check.due("bytes", x.bytes(0), 300);
        check.due("one more", Check.thrownBy(x, y -> y.edit(0, 9, 1, 1)), UNSUPPORTED);
    }

    // "if its own vector of the document covers it, nothing happens"
    private void nothingComesOfWhatOwnCovers() {
        FolderRounds x = new FolderRounds();
        x.edit(0, 9, 40, 1);
        x.visit(0, 0, 2);
        x.copy(0, 1);
        x.visit(0, 1, 0);
        x.edit(1, 9, 0, 1);
        Runs.fill(x, 1, 300);
        x.visit(1, 1, 0);
        check.due("it is not left out, though there is no room", x.leftOut(), 0);
        check.due("what stood stands", Check.vector(x, 1, 9, 0), "1 1 0 0");
        check.due("own is as before", Check.known(x, 1, 1, 9), "1 1 0 0");
        check.due("bytes", x.bytes(1), 300);
    }

    private void nothingComesOfWhatWasErased() {
        FolderRounds x = new FolderRounds();
        x.edit(0, 0, 5, 5);
        x.visit(1, 0, 14);
        x.erase(0, 0);
        Runs.goRound(x, 0, 2);
        check.due("all marks are dropped", Check.row(4, x::marks), "0 0 0 0");
        x.visit(1, 2, 0);
        check.due("the old one does not come back", x.siblings(2, 0), 0);
        check.due("it is not left out", x.leftOut(), 0);
    }

    // "Otherwise all that the version covers stands no more, it stands, and its own becomes the join with it"
    private void severalAreReplacedAtOnce() {
        FolderRounds x = Runs.threeSiblings();
        x.erase(3, 3);
        Runs.carry(x, 1, 3, 2);
        check.due("three and a mark", x.siblings(2, 3) * 10 + x.marks(2), 31);
        Runs.carry(x, 1, 2, 0);
        check.due("there, too", x.siblings(0, 3) * 10 + x.marks(0), 31);
        x.edit(0, 3, 7, 7);
        Runs.carry(x, 1, 0, 2);
        check.due("one for all", x.siblings(2, 3) * 10 + x.marks(2), 10);
        check.due("own", Check.known(x, 2, 2, 3), "2 1 1 1");
        check.due("bytes", x.bytes(2), 7);
    }

    /** Station 1 gets a version of 40 bytes that replaces one of 10, beside others that have so many together. */
    private static FolderRounds replaceTenByForty(int others) {
        FolderRounds x = new FolderRounds();
        x.edit(1, 9, 10, 1);
        Runs.carry(x, 0, 1, 0);
        x.edit(0, 9, 40, 2);
        Runs.fill(x, 1, others);
        Runs.carry(x, 0, 0, 1);
        return x;
    }

    // "but if there would be more than 300 bytes then, it is LEFT OUT, and nothing happens"
    private void justSoManyBytesStand() {
        FolderRounds x = replaceTenByForty(260);
        check.due("bytes", x.bytes(1), 300);
        check.due("left out", x.leftOut(), 0);
        check.due("vector", Check.vector(x, 1, 9, 0), "1 1 0 0");
    }

    private void oneByteMoreIsLeftOut() {
        FolderRounds x = replaceTenByForty(261);
        check.due("bytes", x.bytes(1), 271);
        check.due("left out", x.leftOut(), 1);
        check.due("siblings", x.siblings(1, 9), 1);
        check.due("what it would replace stands", Check.vector(x, 1, 9, 0), "0 1 0 0");
        check.due("own is as before", Check.known(x, 1, 1, 9), "0 1 0 0");
        x.edit(1, 9, 10, 3);
        check.due("the next edit knows nothing of it", Check.vector(x, 1, 9, 0), "0 2 0 0");
    }

    // "EDITING makes a version with its own vector, its own counter in it 1 more, which comes to stand."
    private void editingGoesOnBehindDroppedMark() {
        FolderRounds x = new FolderRounds();
        x.edit(0, 0, 5, 5);
        x.erase(0, 0);
        Runs.goRound(x, 0, 2);
        check.due("nothing stands", x.siblings(3, 0) + x.marks(3), 0);
        x.edit(3, 0, 1, 1);
        check.due("vector", Check.vector(x, 3, 0, 0), "2 0 0 1");
        x.erase(0, 0);
        check.due("own", Check.known(x, 0, 0, 0), "3 0 0 0");
    }
}
