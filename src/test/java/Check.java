import java.util.Objects;
import java.util.function.Consumer;
import java.util.function.Function;

/** Compares answers with what is due, prints what differs and ends a test program by exit code. */
final class Check {
    private final String name;
    private int checks = 0;
    private int wrong = 0;

    Check(String name) {
        this.name = name;
    }

    void due(String what, Object got, Object want) {
        checks++;
        if (!Objects.equals(got, want)) {
            wrong++;
            System.out.println(name + ": " + what + " answered " + got + ", due is " + want);
        }
    }

    /** After a run of calls, a call throws just that exception and changes nothing that can be seen. */
    void refused(String what, Class<? extends RuntimeException> want,
            Consumer<FolderRounds> run, Consumer<FolderRounds> call) {
        FolderRounds x = new FolderRounds();
        run.accept(x);
        due(what, thrownBy(x, call), want);
        String before = State.after(run);
        String after = State.after(run.andThen(y -> thrownBy(y, call)));
        due(what + " changed the state", !before.equals(after), false);
    }

    void refused(String what, Class<? extends RuntimeException> want, Consumer<FolderRounds> call) {
        refused(what, want, State.RICH, call);
    }

    static Class<?> thrownBy(FolderRounds x, Consumer<FolderRounds> call) {
        try {
            call.accept(x);
        } catch (RuntimeException e) {
            return e.getClass();
        }
        return null;
    }

    /** Joins answers for the indices 0 .. n - 1, so that a row of them is compared at once. */
    static String row(int n, Function<Integer, Object> answer) {
        StringBuilder text = new StringBuilder();
        for (int i = 0; i < n; i++) {
            text.append(i == 0 ? "" : " ").append(answer.apply(i));
        }
        return text.toString();
    }

    /** The counters of the k-th version with bytes that stands. */
    static String vector(FolderRounds x, int station, int document, int k) {
        return row(4, j -> x.counter(station, document, k, j));
    }

    static String known(FolderRounds x, int station, int other, int document) {
        return row(4, j -> x.known(station, other, document, j));
    }

    static String item(FolderRounds x, int cartridge, int k) {
        return row(6, what -> x.item(cartridge, k, what));
    }

    void end() {
        System.out.println(name + ": " + checks + " checks, " + wrong + " wrong");
        if (wrong != 0 || checks == 0) {
            System.exit(1);
        }
    }
}
