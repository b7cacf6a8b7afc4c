import java.util.Arrays;
import java.util.NoSuchElementException;
import java.util.function.BiConsumer;
import java.util.function.Consumer;
import java.util.function.Function;

/**
 * "A call that throws changes nothing; where several exceptions that a call names fit, it is the one that it names
 * first." Each call is made with every choice of arguments at, just beside and far from their edges.
 */
public final class RefusalTest {
    private static final Class<NoSuchElementException> NONE = NoSuchElementException.class;
    private static final Class<IllegalArgumentException> ILLEGAL = IllegalArgumentException.class;
    private static final Class<UnsupportedOperationException> UNSUPPORTED = UnsupportedOperationException.class;
    private static final Class<IndexOutOfBoundsException> OUTSIDE = IndexOutOfBoundsException.class;
    private static final int LEAST = Integer.MIN_VALUE;
    private static final int MOST = Integer.MAX_VALUE;
    private static final int[] STATION = {LEAST, -1, 0, 1, 3, 4, MOST};
    private static final int[] DOCUMENT = {LEAST, -1, 0, 9, 10, MOST};
    private static final int[] CARTRIDGE = {LEAST, -1, 0, 2, 3, MOST};
    private static final int[] COUNTER = {LEAST, -1, 0, 3, 4, MOST};
    private static final int[] VERSION = {LEAST, -1, 0, 1, 2, MOST};
    private static final int[] DESTINATIONS = {LEAST, -1, 0, 15, 16, MOST};

    private final Check check = new Check("RefusalTest");
    private final String before = State.after(RefusalTest::begin);

    public static void main(String[] args) {
        RefusalTest test = new RefusalTest();
        test.edges();
        test.editAndErase();
        test.siblingsCounterAndByteOf();
        test.visitAndCut();
        test.loseCopyRoomAndItem();
        test.knownMarksBytesAndSame();
        test.check.end();
    }

    /** Station 0 has counter 200 of document 9, and station 3 has 300 bytes, none of them of documents 0 and 9. */
    private static void begin(FolderRounds x) {
        State.RICH.accept(x);
        Runs.editOften(x, 0, 9, 200);
    }

    private static FolderRounds begun() {
        FolderRounds x = new FolderRounds();
        begin(x);
        return x;
    }

    private void edges() {
        FolderRounds x = begun();
        check.due("counter 200", x.counter(0, 9, 0, 0), 200);
        check.due("full", x.bytes(3), 300);
        check.due("of document 0", Check.row(4, s -> x.siblings(s, 0)), "1 2 0 0");
        check.due("of document 9", Check.row(4, s -> x.siblings(s, 9)), "1 0 0 0");
        check.due("lengths", x.byteOf(0, 0, 0, -1) * 100 + x.byteOf(1, 0, 0, -1) * 10 + x.byteOf(1, 0, 1, -1), 727);
        check.due("rows", Check.row(3, x::lose), "2 3 1");
    }

    private void editAndErase() {
        each("edit", a -> !isStation(a[0]) || !isDocument(a[1]) ? NONE
                : a[2] < 0 || a[2] > 40 || a[3] < 0 || a[3] > 255 ? ILLEGAL
                : a[0] == 0 && a[1] == 9 || a[0] == 3 && a[2] == 40 ? UNSUPPORTED : null,
                (x, a) -> x.edit(a[0], a[1], a[2], a[3]),
                STATION, DOCUMENT, new int[] {LEAST, -1, 0, 40, 41, MOST}, new int[] {LEAST, -1, 0, 255, 256, MOST});
        each("erase", a -> !isStation(a[0]) || !isDocument(a[1]) ? NONE
                : a[0] == 0 && a[1] == 9 ? UNSUPPORTED : null,
                (x, a) -> x.erase(a[0], a[1]), STATION, DOCUMENT);
    }

    private void siblingsCounterAndByteOf() {
        each("siblings", a -> isStation(a[0]) && isDocument(a[1]) ? null : NONE,
                (x, a) -> x.siblings(a[0], a[1]), STATION, DOCUMENT);
        each("counter", a -> !isVersion(a[0], a[1], a[2]) ? NONE : isCounter(a[3]) ? null : OUTSIDE,
                (x, a) -> x.counter(a[0], a[1], a[2], a[3]), STATION, DOCUMENT, VERSION, COUNTER);
        each("byteOf", a -> !isVersion(a[0], a[1], a[2]) ? NONE
                : a[3] < -1 || a[3] >= lengthOf(a[0], a[1], a[2]) ? OUTSIDE : null,
                (x, a) -> x.byteOf(a[0], a[1], a[2], a[3]),
                STATION, DOCUMENT, VERSION, new int[] {LEAST, -2, -1, 0, 1, 2, 6, 7, MOST});
    }

    private void visitAndCut() {
        each("visit", a -> isCartridge(a[0]) && isStation(a[1]) ? null : NONE,
                (x, a) -> x.visit(a[0], a[1], a[2]), CARTRIDGE, STATION, DESTINATIONS);
        each("cut", a -> !isCartridge(a[0]) || !isStation(a[1]) ? NONE : a[3] < 0 ? ILLEGAL : null,
                (x, a) -> x.cut(a[0], a[1], a[2], a[3]),
                CARTRIDGE, STATION, DESTINATIONS, new int[] {LEAST, -1, 0, 1, MOST});
    }

    private void loseCopyRoomAndItem() {
        each("lose", a -> isCartridge(a[0]) ? null : NONE, (x, a) -> x.lose(a[0]), CARTRIDGE);
        each("copy", a -> isCartridge(a[0]) && isCartridge(a[1]) ? null : NONE,
                (x, a) -> x.copy(a[0], a[1]), CARTRIDGE, CARTRIDGE);
        each("room", a -> isCartridge(a[0]) ? null : NONE, (x, a) -> x.room(a[0]), CARTRIDGE);
        int[] onCartridge = {2, 3, 1};
        each("item", a -> !isCartridge(a[0]) || a[1] < 0 || a[1] >= onCartridge[a[0]] ? NONE
                : a[2] < 0 || a[2] > 5 ? OUTSIDE : null,
                (x, a) -> x.item(a[0], a[1], a[2]),
                new int[] {LEAST, -1, 0, 1, 2, 3, MOST}, new int[] {LEAST, -1, 0, 1, 2, 3, MOST},
                new int[] {LEAST, -1, 0, 1, 2, 5, 6, MOST});
    }

    private void knownMarksBytesAndSame() {
        each("known", a -> !isStation(a[0]) || !isStation(a[1]) || !isDocument(a[2]) ? NONE
                : isCounter(a[3]) ? null : OUTSIDE,
                (x, a) -> x.known(a[0], a[1], a[2], a[3]), STATION, STATION, DOCUMENT, COUNTER);
        each("marks", a -> isStation(a[0]) ? null : NONE, (x, a) -> x.marks(a[0]), STATION);
        each("bytes", a -> isStation(a[0]) ? null : NONE, (x, a) -> x.bytes(a[0]), STATION);
        each("same", a -> isStation(a[0]) && isStation(a[1]) ? null : NONE,
                (x, a) -> x.same(a[0], a[1]), STATION, STATION);
    }

    private static boolean isStation(int number) {
        return number >= 0 && number <= 3;
    }

    private static boolean isDocument(int number) {
        return number >= 0 && number <= 9;
    }

    private static boolean isCartridge(int number) {
        return number >= 0 && number <= 2;
    }

    private static boolean isCounter(int number) {
        return number >= 0 && number <= 3;
    }

    private static boolean isVersion(int station, int document, int k) {
        return lengthOf(station, document, k) >= 0;
    }

    /** What edges() looks at; -1 where there is no such version. */
    private static int lengthOf(int station, int document, int k) {
        if (station == 0 && k == 0) {
            return document == 0 ? 7 : document == 9 ? 1 : -1;
        }
        return station == 1 && document == 0 ? k == 0 ? 2 : k == 1 ? 7 : -1 : -1;
    }

    private void each(String name, Function<int[], Class<?>> due, BiConsumer<FolderRounds, int[]> call,
            int[]... choices) {
        int all = Arrays.stream(choices).mapToInt(choice -> choice.length).reduce(1, (a, b) -> a * b);
        for (int number = 0; number < all; number++) {
            int[] arguments = new int[choices.length];
            int rest = number;
            for (int i = 0; i < choices.length; i++) {
                arguments[i] = choices[i][rest % choices[i].length];
                rest /= choices[i].length;
            }
            compare(name + Arrays.toString(arguments), due.apply(arguments), x -> call.accept(x, arguments));
        }
    }

    private void compare(String what, Class<?> due, Consumer<FolderRounds> call) {
        check.due(what + " throws", Check.thrownBy(begun(), call), due);
        if (due != null) {
            String after = State.after(x -> {
                begin(x);
                Check.thrownBy(x, call);
            });
            check.due(what + " changed nothing", after.equals(before), true);
        }
    }
}
