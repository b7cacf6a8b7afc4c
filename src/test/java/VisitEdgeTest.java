import java.util.function.Consumer;

/** Edges that the document names where it tells cartridges, visits and cuts, a test for each sentence above it. */
public final class VisitEdgeTest {
    private final Check check = new Check("VisitEdgeTest");

    public static void main(String[] args) {
        VisitEdgeTest test = new VisitEdgeTest();
        test.cartridgeIsJustFull();
        test.oneByteMoreIsPassed();
        test.twoOf40AndTwelveOfNone();
        test.newTableHasZeros();
        test.allOfTheRowGo();
        test.roomIsGivenInTheOrderOfTheRow();
        test.ownStaysBehindWhatWasLeftOut();
        test.marksAreDroppedWhenTheLastOneIsKnown();
        test.marksStayWhenOneCounterIsLess();
        test.marksAreDroppedBesideBytes();
        test.marksAreDroppedForNoDestination();
        test.marksAreDroppedBeforeLoading();
        test.rowIsEmptyAfterLoadingNothing();
        test.tableIsWhatTheStationKnows();
        test.loadingIsForThoseThatLack();
        test.equalKnowledgeIsNoLack();
        test.sumsDecideBeforeDocuments();
        test.sumsTakeEachCounter();
        test.equalSumsAreByDocumentAndOrder();
        test.laterOnesFillTheRoomThatIsLeft();
        test.cutAfterEachNumber();
        test.cutThatIsNotReachedIsTheVisit();
        test.cutAfterZeroWithNothingToDo();
        test.cutIsNotReachedByWhatIsPassed();
        test.cutKeepsTheOldTable();
        test.cutGoesOnWhereItWasOver();
        test.check.end();
    }

    private static FolderRounds withLengths(int... lengths) {
        FolderRounds x = new FolderRounds();
        for (int document = 0; document < lengths.length; document++) {
            x.edit(0, document, lengths[document], document);
        }
        return x;
    }

    private static String documentsOn(FolderRounds x, int cartridge, int count) {
        return Check.row(count, k -> x.item(cartridge, k, 0));
    }

    // "A CARTRIDGE has room for 100; a version takes 8 and its bytes."
    private void cartridgeIsJustFull() {
        FolderRounds x = withLengths(40, 36, 0);
        check.due("loaded", x.visit(0, 0, 2), 3);
        check.due("room", x.room(0), 0);
        FolderRounds y = withLengths(40, 35, 0);
        check.due("loaded, one byte less", y.visit(0, 0, 2), 3);
        check.due("room, one byte less", y.room(0), 1);
    }

    private void oneByteMoreIsPassed() {
        FolderRounds x = withLengths(40, 36, 1);
        check.due("loaded", x.visit(0, 0, 2), 2);
        check.due("room", x.room(0), 8);
        FolderRounds y = withLengths(40, 37, 0);
        check.due("no bytes take 8, too", y.visit(0, 0, 2), 2);
        check.due("room", y.room(0), 7);
    }

    private void twoOf40AndTwelveOfNone() {
        FolderRounds x = withLengths(40, 40, 40);
        check.due("two of 40", x.visit(0, 0, 2), 2);
        check.due("room", x.room(0), 4);
        FolderRounds y = withLengths(0, 0, 0, 0, 0, 0, 0, 0, 0, 0);
        for (int document = 0; document < 3; document++) {
            y.edit(1, document, 0, 0);
        }
        Runs.carry(y, 0, 1, 0);
        check.due("twelve of none", y.visit(0, 0, 4), 12);
        check.due("room", y.room(0), 4);
    }

    // "It has versions in a row, and a TABLE: for each station and document a vector (zeros at first)."
    private void newTableHasZeros() {
        for (int cartridge = 0; cartridge < 3; cartridge++) {
            FolderRounds x = new FolderRounds();
            x.edit(0, 0, 1, 1);
            Runs.carry(x, cartridge, 0, 1);
            x.visit((cartridge + 1) % 3, 1, 0);
            check.due("of itself", Check.known(x, 1, 1, 0), "1 0 0 0");
            check.due("of the other", Check.known(x, 1, 0, 0), "1 0 0 0");
            x.visit((cartridge + 2) % 3, 2, 0);
            check.due("of all", Check.row(4, s -> x.known(2, s, 0, 0)), "0 0 0 0");
        }
    }

    // "each go from the cartridge and come to stand (those of which nothing comes, or that are left out, go, too)"
    private void allOfTheRowGo() {
        FolderRounds x = new FolderRounds();
        x.edit(0, 9, 0, 0);
        x.visit(0, 0, 2);
        x.visit(0, 1, 1);
        x.edit(0, 8, 1, 1);
        x.erase(0, 0);
        check.due("loaded", x.visit(0, 0, 6), 3);
        Runs.fill(x, 1, 300);
        x.visit(0, 1, 0);
        check.due("nothing came of the first", x.siblings(1, 9), 1);
        check.due("the second was left out", x.siblings(1, 8) * 10 + x.leftOut(), 1);
        check.due("the third stands", x.marks(1), 1);
        check.due("all went", x.lose(0), 0);
    }

    // "the versions, in their order"
    private void roomIsGivenInTheOrderOfTheRow() {
        FolderRounds x = new FolderRounds();
        x.edit(0, 0, 40, 1);
        x.edit(0, 1, 10, 1);
        x.visit(0, 0, 2);
        Runs.fill(x, 1, 261);
        x.visit(0, 1, 0);
        check.due("the first had no room", x.siblings(1, 0), 1);
        check.due("the second had", x.siblings(1, 1), 2);
        check.due("left out", x.leftOut(), 1);
        FolderRounds y = new FolderRounds();
        y.edit(0, 0, 10, 1);
        y.edit(0, 1, 40, 1);
        y.visit(0, 0, 2);
        Runs.fill(y, 1, 261);
        y.visit(0, 1, 0);
        check.due("the first had room", y.siblings(1, 0), 2);
        check.due("the second had none then", y.siblings(1, 1), 1);
        check.due("left out", y.leftOut(), 1);
    }

    // "(but of itself only up to its own, which stays)"
    private void ownStaysBehindWhatWasLeftOut() {
        FolderRounds x = new FolderRounds();
        x.edit(0, 9, 1, 1);
        Runs.fill(x, 1, 300);
        Runs.carry(x, 0, 0, 1);
        check.due("left out", x.leftOut(), 1);
        check.due("own", Check.known(x, 1, 1, 9), "0 0 0 0");
        check.due("of the other", Check.known(x, 1, 0, 9), "1 0 0 0");
        x.visit(0, 0, 0);
        check.due("the other knows that it was left out", Check.known(x, 0, 1, 9), "0 0 0 0");
        check.due("and brings it again", x.visit(0, 0, 2), 1);
    }

    // "Marks that stand are dropped, if what the station knows of all stations covers them."
    private void marksAreDroppedWhenTheLastOneIsKnown() {
        for (int maker = 0; maker < 4; maker++) {
            FolderRounds x = new FolderRounds();
            x.erase(maker, 7);
            for (int i = 0; i < 3; i++) {
                x.visit(0, (maker + i) % 4, 15);
                check.due("it stands at " + i, x.marks((maker + i) % 4), 1);
            }
            int last = (maker + 3) % 4;
            x.visit(0, last, 15);
            check.due("dropped at the last", x.marks(last), 0);
            x.visit(0, maker, 15);
            check.due("dropped at the maker", x.marks(maker), 0);
            check.due("it stands where nobody came", x.marks((maker + 1) % 4) + x.marks((maker + 2) % 4), 2);
        }
    }

    private void marksStayWhenOneCounterIsLess() {
        FolderRounds x = new FolderRounds();
        x.erase(0, 0);
        Runs.goRound(x, 0, 2);
        check.due("dropped everywhere", Check.row(4, x::marks), "0 0 0 0");
        x.erase(1, 0);
        Runs.carry(x, 0, 1, 0);
        check.due("known of 2", Check.known(x, 0, 2, 0), "1 0 0 0");
        check.due("the newer one stands at two", Check.row(4, x::marks), "1 1 0 0");
        x.visit(0, 0, 12);
        x.visit(0, 2, 8);
        x.visit(0, 3, 0);
        check.due("and is dropped at the last", Check.row(4, x::marks), "1 1 1 0");
    }

    private void marksAreDroppedBesideBytes() {
        FolderRounds x = new FolderRounds();
        x.edit(0, 0, 1, 1);
        x.erase(1, 0);
        Runs.goRound(x, 0, 3);
        check.due("marks", Check.row(4, x::marks), "0 0 0 0");
        check.due("what the mark does not cover", Check.row(4, s -> x.siblings(s, 0)), "1 1 1 1");
        check.due("own", Check.known(x, 2, 2, 0), "1 1 0 0");
    }

    private void marksAreDroppedForNoDestination() {
        FolderRounds x = new FolderRounds();
        x.erase(0, 0);
        x.visit(0, 0, 15);
        x.visit(0, 1, 15);
        x.visit(0, 2, 15);
        x.visit(0, 3, 0);
        check.due("at the last", x.marks(3), 0);
        x.visit(0, 2, 0);
        check.due("at the one before", x.marks(2), 0);
    }

    private void marksAreDroppedBeforeLoading() {
        FolderRounds x = new FolderRounds();
        for (int document = 0; document < 10; document++) {
            x.erase(0, document);
        }
        check.due("ten are loaded", x.visit(0, 0, 15), 10);
        x.visit(0, 1, 15);
        check.due("ten go on", x.visit(0, 2, 15), 10);
        x.edit(3, 9, 30, 1);
        check.due("only what is not dropped is loaded", x.visit(0, 3, 15), 1);
        check.due("the one", Check.item(x, 0, 0), "9 30 0 0 0 1");
        check.due("marks", x.marks(3), 0);
    }

    // "LOADING: the row and the table become empty, then the table is what the station knows."
    private void rowIsEmptyAfterLoadingNothing() {
        FolderRounds x = Runs.threeOnCartridge();
        check.due("for no destination", x.visit(0, 0, 0), 0);
        check.due("room", x.room(0), 100);
        FolderRounds y = Runs.threeOnCartridge();
        check.due("at one that has nothing for it", y.visit(0, 2, 1), 0);
        check.due("room", y.room(0), 100);
    }

    private void tableIsWhatTheStationKnows() {
        FolderRounds x = new FolderRounds();
        x.edit(0, 0, 1, 1);
        x.visit(0, 0, 0);
        x.edit(1, 9, 1, 1);
        x.visit(0, 1, 0);
        x.visit(0, 3, 0);
        check.due("of who loaded last", Check.known(x, 3, 1, 9), "0 1 0 0");
        check.due("of whom that one knows", Check.known(x, 3, 0, 0), "1 0 0 0");
        check.due("only so much as it had", Check.known(x, 3, 1, 0), "0 0 0 0");
    }

    // "those that a destination but the station lacks (what the station knows of it does not cover them) are loaded"
    private void loadingIsForThoseThatLack() {
        for (int station = 0; station < 4; station++) {
            FolderRounds x = new FolderRounds();
            int at = station;
            x.edit(station, 0, 1, 1);
            x.erase(station, 1);
            check.due("at " + at, Check.row(16, d -> x.visit(0, at, d)),
                    Check.row(16, d -> (d & ~(1 << at)) == 0 ? 0 : 2));
        }
    }

    private void equalKnowledgeIsNoLack() {
        FolderRounds x = new FolderRounds();
        x.edit(0, 0, 1, 1);
        x.visit(0, 0, 2);
        x.visit(0, 1, 1);
        check.due("it is not brought back", x.room(0), 100);
        x.visit(0, 0, 0);
        check.due("it is not brought twice", x.visit(0, 0, 2), 0);
        x.erase(0, 0);
        check.due("a mark of one more is", x.visit(0, 0, 2), 1);
    }

    // "with the least sum of counters first, then by document, then in order"
    private void sumsDecideBeforeDocuments() {
        FolderRounds x = new FolderRounds();
        Runs.editOften(x, 0, 0, 130);
        Runs.editOften(x, 0, 1, 129);
        Runs.editOften(x, 0, 2, 128);
        x.erase(0, 9);
        check.due("loaded", x.visit(0, 0, 2), 4);
        check.due("documents", documentsOn(x, 0, 4), "9 2 1 0");
    }

    private void sumsTakeEachCounter() {
        for (int station = 0; station < 4; station++) {
            FolderRounds x = new FolderRounds();
            Runs.editOften(x, station, 0, 2);
            x.edit(station, 9, 1, 1);
            x.visit(0, station, 15);
            check.due("of station " + station, documentsOn(x, 0, 2), "9 0");
        }
        FolderRounds x = new FolderRounds();
        for (int station = 0; station < 3; station++) {
            x.edit(station, 0, 1, 1);
            x.visit(0, station, 15);
        }
        x.visit(0, 3, 0);
        x.edit(3, 0, 1, 1);
        Runs.editOften(x, 3, 5, 5);
        Runs.editOften(x, 3, 9, 3);
        x.visit(0, 3, 15);
        check.due("the sum, not the greatest counter", documentsOn(x, 0, 3), "9 0 5");
        check.due("four counters of 1", Check.item(x, 0, 1), "0 1 1 1 1 1");
    }

    private void equalSumsAreByDocumentAndOrder() {
        FolderRounds x = new FolderRounds();
        for (int document = 9; document >= 7; document--) {
            for (int station = 0; station < 3; station++) {
                x.edit(station, document, 0, 0);
            }
        }
        Runs.carry(x, 0, 0, 2);
        Runs.carry(x, 0, 1, 2);
        check.due("loaded", x.visit(0, 2, 8), 9);
        check.due("documents", documentsOn(x, 0, 9), "7 7 7 8 8 8 9 9 9");
        check.due("first counters", Check.row(9, k -> x.item(0, k, 2)), "0 0 1 0 0 1 0 0 1");
        check.due("second counters", Check.row(9, k -> x.item(0, k, 3)), "0 1 0 0 1 0 0 1 0");
    }

    // "one for which there is no room is passed"
    private void laterOnesFillTheRoomThatIsLeft() {
        FolderRounds x = withLengths(40, 30, 7, 40, 6, 0);
        check.due("loaded", x.visit(0, 0, 2), 3);
        check.due("documents", documentsOn(x, 0, 3), "0 1 4");
        check.due("room", x.room(0), 0);
        x.visit(0, 1, 0);
        x.visit(0, 0, 0);
        check.due("those that were passed come next", x.visit(0, 0, 2), 3);
        check.due("documents", documentsOn(x, 0, 3), "2 3 5");
    }

    // "as soon as n versions went from the cartridge or were loaded (both counted), and another one would, it is over"
    private void cutAfterEachNumber() {
        String[] rows = {"0 1 2", "1 2", "2", "", "0", "0 1", "0 1 2", "0 1 2 8", "0 1 2 8 9", "0 1 2 8 9"};
        for (int n = 0; n < rows.length; n++) {
            FolderRounds x = Runs.threeOnCartridge();
            int unloaded = Math.min(n, 3);
            int loaded = Math.min(n - unloaded, 5);
            check.due("cut after " + n, x.cut(0, 1, 15, n), loaded);
            check.due("stand after " + n, Check.row(3, d -> x.siblings(1, d)),
                    Check.row(3, d -> d < unloaded ? 1 : 0));
            check.due("learned after " + n, x.known(1, 0, 0, 0), n < 3 ? 0 : 1);
            int left = n < 3 ? 3 - n : loaded;
            check.due("row after " + n, documentsOn(x, 0, left), rows[n]);
            check.due("all of the row after " + n, x.lose(0), left);
        }
    }

    // "(if none would, all is done)"
    private void cutThatIsNotReachedIsTheVisit() {
        Consumer<FolderRounds> begin = Runs::loadThree;
        String whole = State.after(begin.andThen(x -> x.visit(0, 1, 15)));
        for (int n : new int[] {8, 9, 100, Integer.MAX_VALUE}) {
            check.due("after " + n, State.after(begin.andThen(x -> x.cut(0, 1, 15, n))).equals(whole), true);
        }
        check.due("after 7", State.after(begin.andThen(x -> x.cut(0, 1, 15, 7))).equals(whole), false);
        String forNobody = State.after(begin.andThen(x -> x.visit(0, 1, 0)));
        check.due("after 3, for nobody",
                State.after(begin.andThen(x -> x.cut(0, 1, 0, 3))).equals(forNobody), true);
    }

    private void cutAfterZeroWithNothingToDo() {
        FolderRounds x = new FolderRounds();
        x.erase(0, 0);
        Runs.goRound(x, 0, 1);
        check.due("the row is empty", x.room(0), 100);
        check.due("cut after 0", x.cut(0, 0, 15, 0), 0);
        check.due("learned", Check.known(x, 0, 3, 0), "1 0 0 0");
        check.due("dropped", x.marks(0), 0);
    }

    private void cutIsNotReachedByWhatIsPassed() {
        FolderRounds x = withLengths(40, 40, 40, 5, 4);
        check.due("those passed are not counted", x.cut(0, 0, 2, 2), 2);
        check.due("nothing else fits", x.room(0), 4);
        FolderRounds y = withLengths(40, 30, 40, 6);
        check.due("loaded behind one that was passed", y.cut(0, 0, 2, 3), 3);
        check.due("documents", documentsOn(y, 0, 3), "0 1 3");
    }

    // "(a cartridge that was not yet unloaded keeps the versions that are left, and its table)"
    private void cutKeepsTheOldTable() {
        for (int n = 0; n < 3; n++) {
            FolderRounds x = Runs.threeOnCartridge();
            x.cut(0, 1, 15, n);
            check.due("nothing is learned after " + n, Check.row(10, d -> x.known(1, 0, d, 0)),
                    "0 0 0 0 0 0 0 0 0 0");
            x.visit(0, 2, 0);
            check.due("the old table after " + n, Check.row(10, d -> x.known(2, 0, d, 0)), "1 1 1 0 0 0 0 0 0 0");
            check.due("no new one after " + n, Check.row(10, d -> x.known(2, 1, d, 1)), "0 0 0 0 0 0 0 0 0 0");
        }
    }

    // "(while loading the table is new already, and what was loaded stays there)"
    private void cutGoesOnWhereItWasOver() {
        FolderRounds x = Runs.threeOnCartridge();
        check.due("two are loaded", x.cut(0, 1, 15, 5), 2);
        x.copy(0, 1);
        x.visit(1, 2, 0);
        check.due("the new table", Check.row(10, d -> x.known(2, 1, d, 1)), "0 0 0 0 0 0 0 0 1 1");
        check.due("what was loaded came", Check.row(10, d -> x.siblings(2, d)), "1 1 0 0 0 0 0 0 0 0");
        check.due("the next visit unloads it again and loads all", x.visit(0, 1, 15), 5);
    }
}
