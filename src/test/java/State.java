import java.util.function.Consumer;

/**
 * All that can be seen of an object after a run of calls, as a text. An object is only promised for 512 calls, so
 * the run is made again on a new object for each part.
 */
final class State {
    /** Siblings, marks, versions left out, loaded cartridges with tables, and station 3 with no room left. */
    static final Consumer<FolderRounds> RICH = State::makeRich;

    private State() {
    }

    private static void makeRich(FolderRounds x) {
        x.edit(0, 0, 5, 250);
        x.edit(0, 0, 7, 3);
        x.edit(1, 0, 2, 9);
        x.erase(1, 4);
        x.visit(0, 0, 14);
        x.visit(0, 1, 13);
        x.visit(1, 1, 15);
        for (int document = 1; document <= 7; document++) {
            x.edit(3, document, 40, document);
        }
        x.edit(3, 8, 20, 0);
        x.visit(0, 3, 15);
        x.erase(2, 9);
        x.visit(2, 2, 15);
    }

    static String after(Consumer<FolderRounds> run) {
        StringBuilder text = new StringBuilder();
        for (int station = 0; station < 4; station++) {
            addStanding(text, made(run), station);
            addKnown(text, made(run), station);
            addLoading(text, made(run), station);
        }
        addCartridges(text, made(run));
        for (int cartridge = 0; cartridge < 3; cartridge++) {
            addTable(text, run, cartridge);
        }
        return text.toString();
    }

    private static FolderRounds made(Consumer<FolderRounds> run) {
        FolderRounds x = new FolderRounds();
        run.accept(x);
        return x;
    }

    private static void addStanding(StringBuilder text, FolderRounds x, int station) {
        text.append("station ").append(station).append(" marks ").append(x.marks(station));
        text.append(" bytes ").append(x.bytes(station)).append(" left out ").append(x.leftOut()).append('\n');
        for (int other = 0; other < 4; other++) {
            text.append(x.same(station, other)).append(' ');
        }
        for (int document = 0; document < 10; document++) {
            for (int k = 0; k < x.siblings(station, document); k++) {
                text.append(document).append(": ").append(Check.vector(x, station, document, k));
                int length = x.byteOf(station, document, k, -1);
                text.append(" length ").append(length);
                text.append(length == 0 ? "" : " from " + x.byteOf(station, document, k, 0)).append('\n');
            }
        }
    }

    private static void addKnown(StringBuilder text, FolderRounds x, int station) {
        for (int other = 0; other < 4; other++) {
            for (int document = 0; document < 10; document++) {
                text.append(Check.known(x, station, other, document)).append(' ');
            }
            text.append('\n');
        }
    }

    // The vectors of marks are seen only on a cartridge.
    private static void addLoading(StringBuilder text, FolderRounds x, int station) {
        x.lose(0);
        x.visit(0, station, 15);
        addCartridge(text, x, 0);
    }

    private static void addCartridges(StringBuilder text, FolderRounds x) {
        for (int cartridge = 0; cartridge < 3; cartridge++) {
            addCartridge(text, x, cartridge);
        }
    }

    private static void addCartridge(StringBuilder text, FolderRounds x, int cartridge) {
        text.append("cartridge ").append(cartridge).append(" room ").append(x.room(cartridge)).append('\n');
        for (int k = 0; hasItem(x, cartridge, k); k++) {
            text.append(Check.item(x, cartridge, k)).append('\n');
        }
    }

    private static boolean hasItem(FolderRounds x, int cartridge, int k) {
        return Check.thrownBy(x, y -> y.item(cartridge, k, 0)) == null;
    }

    // A table is seen only by what two stations know after the cartridge came there: none sees its own vectors.
    private static void addTable(StringBuilder text, Consumer<FolderRounds> run, int cartridge) {
        for (int station = 0; station < 2; station++) {
            FolderRounds x = made(run);
            x.visit(cartridge, station, 0);
            addKnown(text, x, station);
        }
    }
}
