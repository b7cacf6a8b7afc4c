/** Runs of calls that several tests begin with. */
final class Runs {
    private Runs() {
    }

    /** Station 2 has versions of document 3 from stations 0, 1 and 2 side by side. */
    static FolderRounds threeSiblings() {
        FolderRounds x = new FolderRounds();
        x.edit(0, 3, 1, 10);
        x.edit(1, 3, 2, 20);
        x.edit(2, 3, 3, 30);
        x.visit(0, 0, 4);
        x.visit(0, 2, 0);
        x.visit(0, 1, 4);
        x.visit(0, 2, 0);
        return x;
    }

    static void editOften(FolderRounds x, int station, int document, int times) {
        for (int i = 0; i < times; i++) {
            x.edit(station, document, 1, i);
        }
    }

    /** Documents 0, 1 and so on get 40 bytes each, the last one what is left. */
    static void fill(FolderRounds x, int station, int bytes) {
        int document = 0;
        for (int left = bytes; left > 0; left -= 40) {
            x.edit(station, document, Math.min(left, 40), document);
            document++;
        }
    }
}
