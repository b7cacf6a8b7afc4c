/** Runs of calls that several tests begin with. */
final class Runs {
    private Runs() {
    }

    /** Station 2 has versions of document 3 from stations 0, 1 and 2 side by side. */
    static FolderRounds threeSiblings() {
        FolderRounds x = new FolderRounds();
        x.edit(0, 3, 1, 10);
        x.edit(1, 3, 2, 20);
        x.edit(2, 3, 3, 30);
        x.visit(0, 0, 4);
        x.visit(0, 2, 0);
        x.visit(0, 1, 4);
        x.visit(0, 2, 0);
        return x;
    }

    /** Cartridge 0 has three versions of station 0; station 1 has one of its own and one mark. */
    static void loadThree(FolderRounds x) {
        x.edit(0, 0, 1, 1);
        x.edit(0, 1, 2, 2);
        x.edit(0, 2, 3, 3);
        x.edit(1, 8, 8, 8);
        x.erase(1, 9);
        x.visit(0, 0, 2);
    }

    static FolderRounds threeOnCartridge() {
        FolderRounds x = new FolderRounds();
        loadThree(x);
        return x;
    }

    static void editOften(FolderRounds x, int station, int document, int times) {
        for (int i = 0; i < times; i++) {
            x.edit(station, document, 1, i);
        }
    }

    /** Documents 0, 1 and so on get 40 bytes each, the last one what is left. */
    static void fill(FolderRounds x, int station, int bytes) {
        int document = 0;
        for (int left = bytes; left > 0; left -= 40) {
            x.edit(station, document, Math.min(left, 40), document);
            document++;
        }
    }

    /** What a station lacks, as far as there is room for it, is brought there from another one. */
    static void carry(FolderRounds x, int cartridge, int from, int to) {
        x.visit(cartridge, from, 1 << to);
        x.visit(cartridge, to, 0);
    }

    /** A cartridge goes from station 0 to station 3, so many times, loaded for all. */
    static void goRound(FolderRounds x, int cartridge, int times) {
        for (int i = 0; i < 4 * times; i++) {
            x.visit(cartridge, i % 4, 15);
        }
    }
}
