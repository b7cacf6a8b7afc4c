import com.sun.management.ThreadMXBean;
import java.lang.management.ManagementFactory;
import java.util.function.Consumer;

/** All calls of a run live in one room: whatever 512 calls are made, they make few objects. */
public final class SpaceTest {
    // A four-hundredth part of the room's 7.3 million fields and elements, at 4 bytes or more each.
    private static final long MOST_BYTES = 73_000;

    private final Check check = new Check("SpaceTest");
    private final ThreadMXBean threads = (ThreadMXBean) ManagementFactory.getThreadMXBean();

    public static void main(String[] args) {
        SpaceTest test = new SpaceTest();
        test.measure("edits", x -> test.editAll(x, 512));
        test.measure("visits", test::visitAll);
        test.check.end();
    }

    private void measure(String name, Consumer<FolderRounds> calls) {
        calls.accept(new FolderRounds());
        long before = threads.getCurrentThreadAllocatedBytes();
        calls.accept(new FolderRounds());
        long made = threads.getCurrentThreadAllocatedBytes() - before;
        check.due(name + " made " + made + " bytes, too many", made > MOST_BYTES, false);
    }

    private void editAll(FolderRounds x, int calls) {
        for (int i = 0; i < calls; i++) {
            x.edit(i % 4, i / 4 % 10, i % 20, i % 256);
        }
    }

    private void visitAll(FolderRounds x) {
        editAll(x, 80);
        for (int i = 80; i < 512; i++) {
            x.visit(i % 3, i / 3 % 4, 15);
        }
    }
}
