import java.util.NoSuchElementException;

/** Promises 7 and 8: visit and cut. */
public final class VisitTest {
    private static final Class<NoSuchElementException> NONE = NoSuchElementException.class;
    private static final Class<IllegalArgumentException> ILLEGAL = IllegalArgumentException.class;

    private final Check check = new Check("VisitTest");

    public static void main(String[] args) {
        VisitTest test = new VisitTest();
        test.carriesVersion();
        test.putsSideBySide();
        test.replacesWhatIsCovered();
        test.takesNothingThatOwnCovers();
        test.unloadsInRowOrder();
        test.leavesOutAboveRoomAndGoesOn();
        test.replacedBytesMakeRoom();
        test.learnsFromTable();
        test.ownStaysWhenLearning();
        test.dropsMarksOnlyWhenAllAreKnownToHaveThem();
        test.dropsNoMarkThatOneMayLack();
        test.keepsBytesThatAllHave();
        test.marksOfOwnEditAreNotDroppedEarly();
        test.loadsBySumDocumentAndOrder();
        test.passesWhatHasNoRoom();
        test.loadsTwelveMarks();
        test.looksAtDestinationsOnly();
        test.loadsWhatOneOfSeveralLacks();
        test.tableIsNewAlsoWithoutDestinations();
        test.refusesWrongInputs();
        test.cutWhileUnloadingKeepsTheRest();
        test.cutBetweenUnloadingAndLoading();
        test.cutWhileLoading();
        test.cutThatComesTooLateIsWhole();
        test.cutOfZero();
        test.cutPassesWithoutCounting();
        test.cutCountsWhatIsLeftOut();
        test.cutRefuses();
        test.check.end();
    }

    private void carriesVersion() {
        FolderRounds x = new FolderRounds();
        x.edit(0, 3, 6, 1);
        check.due("loaded", x.visit(0, 0, 2), 1);
        check.due("item", Check.item(x, 0, 0), "3 6 1 0 0 0");
        check.due("still stands where it was loaded", x.siblings(0, 3), 1);
        check.due("loaded for nobody", x.visit(0, 1, 0), 0);
        check.due("row is unloaded", x.room(0), 100);
        check.due("stands", Check.vector(x, 1, 3, 0), "1 0 0 0");
        check.due("bytes", Check.row(6, i -> x.byteOf(1, 3, 0, i)), "1 2 3 4 5 6");
        check.due("own", Check.known(x, 1, 1, 3), "1 0 0 0");
    }

    private void putsSideBySide() {
        FolderRounds x = Runs.threeSiblings();
        check.due("side by side", x.siblings(2, 3), 3);
        check.due("own joins all", Check.known(x, 2, 2, 3), "1 1 1 0");
        check.due("bytes of all", x.bytes(2), 6);
    }

    private void replacesWhatIsCovered() {
        FolderRounds x = Runs.threeSiblings();
        x.edit(0, 3, 9, 9);
        x.visit(0, 0, 4);
        x.visit(0, 2, 0);
        check.due("only the covered one is replaced", x.siblings(2, 3), 3);
        check.due("the new one stands last", Check.vector(x, 2, 3, 2), "2 0 0 0");
        check.due("bytes", x.bytes(2), 14);
        x.visit(0, 2, 1);
        x.visit(0, 0, 0);
        x.erase(0, 3);
        x.visit(0, 0, 4);
        x.visit(0, 2, 0);
        check.due("a mark replaces all it covers", x.siblings(2, 3), 0);
        check.due("the mark stands", x.marks(2), 1);
    }

    private void takesNothingThatOwnCovers() {
        FolderRounds x = new FolderRounds();
        x.edit(0, 0, 1, 1);
        x.visit(0, 0, 2);
        x.copy(0, 1);
        x.visit(0, 1, 0);
        x.edit(1, 0, 2, 2);
        x.visit(1, 1, 0);
        check.due("an old version does not come back", x.siblings(1, 0), 1);
        check.due("the newer one stands", Check.vector(x, 1, 0, 0), "1 1 0 0");
        check.due("it is not left out either", x.leftOut(), 0);
    }

    private void unloadsInRowOrder() {
        FolderRounds x = new FolderRounds();
        x.edit(0, 0, 20, 0);
        x.edit(0, 1, 30, 1);
        x.visit(0, 0, 2);
        Runs.fill(x, 1, 280);
        for (int document = 0; document < 7; document++) {
            x.edit(1, document, document < 2 ? 0 : 40, 0);
        }
        x.edit(1, 7, 40, 0);
        x.edit(1, 8, 20, 0);
        check.due("bytes before", x.bytes(1), 260);
        x.visit(0, 1, 0);
        check.due("the first of the row got the room", x.siblings(1, 0), 2);
        check.due("the second was left out", x.siblings(1, 1), 1);
        check.due("bytes after", x.bytes(1), 280);
    }

    private void leavesOutAboveRoomAndGoesOn() {
        FolderRounds x = new FolderRounds();
        x.edit(0, 0, 40, 0);
        x.edit(0, 1, 21, 1);
        x.edit(0, 2, 10, 2);
        check.due("loaded", x.visit(0, 0, 2), 3);
        check.due("room", x.room(0), 5);
        for (int document = 3; document < 10; document++) {
            x.edit(1, document, 40, 0);
        }
        x.visit(0, 1, 0);
        check.due("left out", x.leftOut(), 2);
        check.due("the small one stands", Check.row(3, d -> x.siblings(1, d)), "0 0 1");
        check.due("bytes", x.bytes(1), 290);
        check.due("own of what was left out", Check.known(x, 1, 1, 0), "0 0 0 0");
        check.due("left out versions go from the cartridge", x.room(0), 100);
        x.erase(1, 3);
        x.visit(0, 0, 2);
        x.visit(0, 1, 0);
        check.due("it comes again and stands", Check.row(3, d -> x.siblings(1, d)), "1 0 1");
        check.due("the other is left out again", x.leftOut(), 3);
        check.due("bytes", x.bytes(1), 290);
    }

    private void replacedBytesMakeRoom() {
        FolderRounds x = new FolderRounds();
        Runs.fill(x, 1, 300);
        x.visit(0, 1, 1);
        x.visit(0, 0, 0);
        x.edit(0, 0, 40, 77);
        x.visit(0, 0, 2);
        x.visit(0, 1, 0);
        check.due("nothing left out", x.leftOut(), 0);
        check.due("exactly 300 bytes", x.bytes(1), 300);
        check.due("the new one stands", x.byteOf(1, 0, 0, 0), 77);
    }

    private void learnsFromTable() {
        FolderRounds x = new FolderRounds();
        x.edit(0, 3, 1, 1);
        x.edit(0, 5, 1, 1);
        x.visit(0, 0, 8);
        x.visit(0, 2, 8);
        check.due("of the loader", Check.known(x, 2, 0, 3), "1 0 0 0");
        check.due("of the loader, all documents", Check.known(x, 2, 0, 5), "1 0 0 0");
        check.due("the loader knows nothing of the other", Check.known(x, 0, 2, 3), "0 0 0 0");
        x.visit(0, 3, 0);
        check.due("of both, one of them by hearsay", Check.known(x, 3, 0, 3), "1 0 0 0");
        check.due("of the last", Check.known(x, 3, 2, 3), "1 0 0 0");
        check.due("of who was not there", Check.known(x, 3, 1, 3), "0 0 0 0");
        x.edit(0, 3, 1, 1);
        x.visit(1, 0, 0);
        x.visit(1, 3, 0);
        check.due("the greater of both", Check.known(x, 3, 0, 3), "2 0 0 0");
        check.due("what the table lacks stays", Check.known(x, 3, 2, 3), "1 0 0 0");
    }

    private void ownStaysWhenLearning() {
        FolderRounds x = new FolderRounds();
        x.edit(0, 3, 1, 1);
        x.visit(0, 0, 0);
        x.visit(0, 1, 0);
        check.due("own does not grow by the table", Check.known(x, 1, 1, 3), "0 0 0 0");
        check.due("but the other's does", Check.known(x, 1, 0, 3), "1 0 0 0");
        x.edit(1, 3, 1, 1);
        check.due("the edit is beside the unseen one", Check.vector(x, 1, 3, 0), "0 1 0 0");
    }

    private void dropsMarksOnlyWhenAllAreKnownToHaveThem() {
        FolderRounds x = new FolderRounds();
        x.edit(0, 0, 1, 1);
        x.erase(0, 0);
        x.visit(0, 0, 15);
        x.visit(0, 1, 15);
        x.visit(0, 2, 15);
        check.due("three of four", x.marks(2), 1);
        check.due("nothing for all that have it", x.visit(0, 3, 15), 0);
        check.due("dropped at the last at once", Check.row(4, x::marks), "1 1 1 0");
        check.due("own stays after dropping", Check.known(x, 3, 3, 0), "2 0 0 0");
        x.visit(0, 0, 15);
        check.due("dropped at the first when it knows", Check.row(4, x::marks), "0 1 1 0");
        x.visit(1, 1, 15);
        check.due("not dropped by an empty cartridge", Check.row(4, x::marks), "0 1 1 0");
        check.due("it does not know of two", x.room(1), 92);
    }

    private void dropsNoMarkThatOneMayLack() {
        for (int absent = 0; absent < 4; absent++) {
            FolderRounds x = new FolderRounds();
            int maker = (absent + 1) % 4;
            x.erase(maker, 0);
            for (int i = 0; i < 8; i++) {
                int station = (maker + i) % 4;
                if (station != absent) {
                    x.visit(0, station, 15);
                }
            }
            check.due("without station " + absent, Check.row(4, x::marks), absent == 0 ? "0 1 1 1"
                    : absent == 1 ? "1 0 1 1" : absent == 2 ? "1 1 0 1" : "1 1 1 0");
        }
    }

    private void keepsBytesThatAllHave() {
        FolderRounds x = new FolderRounds();
        x.edit(0, 0, 0, 0);
        x.edit(0, 1, 1, 1);
        for (int i = 0; i < 8; i++) {
            x.visit(0, i % 4, 15);
        }
        check.due("all know that all have it", Check.known(x, 0, 3, 1), "1 0 0 0");
        check.due("length 0 stands", Check.row(4, s -> x.siblings(s, 0)), "1 1 1 1");
        check.due("length 1 stands", Check.row(4, s -> x.siblings(s, 1)), "1 1 1 1");
    }

    private void marksOfOwnEditAreNotDroppedEarly() {
        FolderRounds x = new FolderRounds();
        x.erase(0, 0);
        x.erase(0, 9);
        for (int station = 0; station < 4; station++) {
            x.visit(0, station, 15);
        }
        x.erase(0, 9);
        x.edit(0, 1, 0, 0);
        x.visit(0, 0, 15);
        check.due("only the mark that all have is dropped", x.marks(0), 1);
        check.due("and no version with bytes", x.siblings(0, 1), 1);
        check.due("both are loaded, the least sum first", Check.item(x, 0, 0), "1 0 1 0 0 0");
        check.due("the new mark", Check.item(x, 0, 1), "9 -1 2 0 0 0");
    }

    private void loadsBySumDocumentAndOrder() {
        FolderRounds x = Runs.threeSiblings();
        x.edit(2, 7, 1, 1);
        x.edit(2, 1, 1, 1);
        x.edit(2, 0, 1, 1);
        x.edit(2, 0, 1, 1);
        x.erase(2, 5);
        check.due("loaded", x.visit(1, 2, 8), 7);
        check.due("documents", Check.row(7, k -> x.item(1, k, 0)), "1 3 3 3 5 7 0");
        check.due("first counters", Check.row(7, k -> x.item(1, k, 2)), "0 0 0 1 0 0 0");
        check.due("second counters", Check.row(7, k -> x.item(1, k, 3)), "0 0 1 0 0 0 0");
        check.due("third counters", Check.row(7, k -> x.item(1, k, 4)), "1 1 0 0 1 1 2");
        check.due("lengths", Check.row(7, k -> x.item(1, k, 1)), "1 3 2 1 -1 1 1");
    }

    private void passesWhatHasNoRoom() {
        FolderRounds x = new FolderRounds();
        x.edit(0, 0, 40, 0);
        x.edit(0, 1, 34, 0);
        x.edit(0, 2, 3, 0);
        x.edit(0, 3, 2, 0);
        x.edit(0, 4, 0, 0);
        check.due("loaded", x.visit(0, 0, 2), 3);
        check.due("the third and the last are passed", Check.row(3, k -> x.item(0, k, 0)), "0 1 3");
        check.due("room", x.room(0), 0);
    }

    private void loadsTwelveMarks() {
        FolderRounds x = new FolderRounds();
        for (int document = 0; document < 10; document++) {
            x.erase(0, document);
        }
        for (int document = 0; document < 5; document++) {
            x.erase(1, document);
        }
        x.visit(0, 1, 1);
        x.visit(0, 0, 0);
        check.due("marks side by side", x.marks(0), 15);
        check.due("loaded", x.visit(0, 0, 8), 12);
        check.due("room", x.room(0), 4);
        check.due("documents", Check.row(12, k -> x.item(0, k, 0)), "0 0 1 1 2 2 3 3 4 4 5 6");
    }

    private void looksAtDestinationsOnly() {
        FolderRounds x = new FolderRounds();
        x.edit(0, 0, 1, 1);
        check.due("no destinations", x.visit(0, 0, 0), 0);
        check.due("its own bit", x.visit(0, 0, 1), 0);
        check.due("bits of no station", x.visit(0, 0, ~15), 0);
        check.due("its own and bits of no station", x.visit(0, 0, ~14), 0);
        check.due("all bits", x.visit(0, 0, -1), 1);
        check.due("one bit", Check.row(4, s -> x.visit(0, 0, 1 << s)), "0 1 1 1");
        check.due("the sign bit", x.visit(0, 0, Integer.MIN_VALUE), 0);
    }

    private void loadsWhatOneOfSeveralLacks() {
        FolderRounds x = new FolderRounds();
        x.edit(0, 0, 1, 1);
        x.visit(0, 0, 2);
        x.visit(0, 1, 0);
        x.visit(0, 0, 0);
        check.due("1 has it", x.visit(0, 0, 2), 0);
        check.due("2 lacks it", x.visit(0, 0, 4), 1);
        check.due("one of two lacks it", x.visit(0, 0, 6), 1);
        x.edit(0, 0, 1, 1);
        check.due("1 has not the newer one", x.visit(0, 0, 2), 1);
    }

    private void tableIsNewAlsoWithoutDestinations() {
        FolderRounds x = new FolderRounds();
        x.edit(0, 0, 1, 1);
        x.visit(0, 0, 0);
        x.visit(0, 3, 0);
        check.due("learned from an empty row", Check.known(x, 3, 0, 0), "1 0 0 0");
    }

    private void refusesWrongInputs() {
        for (int wrong : new int[] {-1, 3, Integer.MIN_VALUE, Integer.MAX_VALUE}) {
            check.refused("visit of cartridge " + wrong, NONE, x -> x.visit(wrong, 0, 15));
            check.refused("cut of cartridge " + wrong, NONE, x -> x.cut(wrong, 0, 15, 1));
        }
        for (int wrong : new int[] {-1, 4, Integer.MIN_VALUE, Integer.MAX_VALUE}) {
            check.refused("visit at station " + wrong, NONE, x -> x.visit(0, wrong, 15));
            check.refused("cut at station " + wrong, NONE, x -> x.cut(0, wrong, 15, 1));
        }
    }

    private void cutWhileUnloadingKeepsTheRest() {
        FolderRounds x = Runs.threeOnCartridge();
        check.due("loaded", x.cut(0, 1, 15, 2), 0);
        check.due("two are unloaded", Check.row(3, d -> x.siblings(1, d)), "1 1 0");
        check.due("one is left", Check.item(x, 0, 0), "2 3 1 0 0 0");
        check.due("room", x.room(0), 89);
        check.due("nothing is learned", Check.known(x, 1, 0, 0), "0 0 0 0");
        check.due("own is joined", Check.known(x, 1, 1, 0), "1 0 0 0");
        x.visit(0, 3, 0);
        check.due("the rest comes later", Check.row(3, d -> x.siblings(3, d)), "0 0 1");
        check.due("with the old table", Check.known(x, 3, 0, 0), "1 0 0 0");
        check.due("not with a new one", Check.known(x, 3, 1, 8), "0 0 0 0");
    }

    private void cutBetweenUnloadingAndLoading() {
        FolderRounds x = Runs.threeOnCartridge();
        check.due("loaded", x.cut(0, 1, 15, 3), 0);
        check.due("all are unloaded", Check.row(3, d -> x.siblings(1, d)), "1 1 1");
        check.due("nothing is on it", x.room(0), 100);
        check.due("it is learned", Check.known(x, 1, 0, 2), "1 0 0 0");
        x.visit(0, 3, 0);
        check.due("the table is new", Check.known(x, 3, 1, 8), "0 1 0 0");
        check.due("with what was unloaded", Check.known(x, 3, 1, 0), "1 0 0 0");
    }

    private void cutWhileLoading() {
        FolderRounds x = Runs.threeOnCartridge();
        check.due("loaded", x.cut(0, 1, 15, 5), 2);
        check.due("what was loaded stays", Check.row(2, k -> x.item(0, k, 0)), "0 1");
        check.due("room", x.room(0), 81);
        x.visit(0, 3, 0);
        check.due("the table is new", Check.known(x, 3, 1, 8), "0 1 0 0");
        check.due("only two came", Check.row(10, d -> x.siblings(3, d)), "1 1 0 0 0 0 0 0 0 0");
    }

    private void cutThatComesTooLateIsWhole() {
        FolderRounds x = Runs.threeOnCartridge();
        check.due("just all", x.cut(0, 1, 15, 8), 5);
        FolderRounds y = Runs.threeOnCartridge();
        check.due("more than all", y.cut(0, 1, 15, Integer.MAX_VALUE), 5);
        FolderRounds z = Runs.threeOnCartridge();
        check.due("one less than all", z.cut(0, 1, 15, 7), 4);
        FolderRounds v = Runs.threeOnCartridge();
        check.due("just the row, for nobody", v.cut(0, 1, 0, 3), 0);
        check.due("which is all", Check.known(v, 1, 0, 0), "1 0 0 0");
    }

    private void cutOfZero() {
        FolderRounds x = Runs.threeOnCartridge();
        check.due("a full row", x.cut(0, 1, 15, 0), 0);
        check.due("it keeps its row", x.room(0), 70);
        check.due("nothing stands", x.siblings(1, 0), 0);
        check.due("an empty row", x.cut(1, 1, 15, 0), 0);
        x.visit(1, 2, 0);
        check.due("it got the table", Check.known(x, 2, 1, 8), "0 1 0 0");
        FolderRounds y = new FolderRounds();
        y.erase(0, 0);
        for (int station = 0; station < 4; station++) {
            y.visit(0, station, 15);
        }
        y.cut(0, 0, 15, 0);
        check.due("with nothing to move all is done", y.marks(0), 0);
    }

    private void cutPassesWithoutCounting() {
        FolderRounds x = new FolderRounds();
        x.edit(0, 0, 40, 0);
        x.edit(0, 1, 35, 0);
        x.edit(0, 2, 40, 0);
        x.edit(0, 3, 1, 0);
        check.due("a passed one is not counted", x.cut(0, 0, 2, 3), 3);
        check.due("documents", Check.row(3, k -> x.item(0, k, 0)), "0 1 3");
        x.lose(0);
        check.due("over before the passed one", x.cut(0, 0, 2, 2), 2);
        check.due("room", x.room(0), 9);
        FolderRounds y = new FolderRounds();
        y.edit(0, 0, 40, 0);
        y.edit(0, 1, 40, 0);
        y.edit(0, 2, 40, 0);
        check.due("only passed ones are left", y.cut(0, 0, 2, 3), 2);
    }

    private void cutCountsWhatIsLeftOut() {
        FolderRounds x = Runs.threeOnCartridge();
        Runs.fill(x, 3, 300);
        check.due("loaded", x.cut(0, 3, 15, 2), 0);
        check.due("both left out are counted", x.leftOut(), 2);
        check.due("one is left", Check.item(x, 0, 0), "2 3 1 0 0 0");
        FolderRounds y = Runs.threeOnCartridge();
        check.due("loaded", y.cut(0, 0, 15, 2), 0);
        check.due("those of which nothing comes are counted", y.room(0), 89);
        check.due("none of them is left out", y.leftOut(), 0);
    }

    private void cutRefuses() {
        check.refused("cut after -1", ILLEGAL, x -> x.cut(0, 0, 15, -1));
        check.refused("cut after the least", ILLEGAL, x -> x.cut(0, 0, 15, Integer.MIN_VALUE));
        check.refused("cut of no cartridge after -1", NONE, x -> x.cut(3, 0, 15, -1));
        check.refused("cut at no station after -1", NONE, x -> x.cut(0, 4, 15, -1));
    }
}
