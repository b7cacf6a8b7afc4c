import java.util.ArrayList;
import java.util.Comparator;
import java.util.HashSet;
import java.util.List;
import java.util.NoSuchElementException;
import java.util.Set;
import java.util.TreeMap;

/** The document's words once more, with sets and maps in place of rows, for ModelTest to compare with. */
final class Model {
    record Version(int document, List<Integer> vector, List<Integer> bytes) {
        boolean mark() {
            return bytes == null;
        }

        int size() {
            return mark() ? 0 : bytes.size();
        }

        int sum() {
            return vector.stream().mapToInt(c -> c).sum();
        }
    }

    private static final List<Integer> ZEROS = List.of(0, 0, 0, 0);
    private static final Comparator<Version> IN_ORDER = Comparator
            .comparing((Version v) -> v.vector().get(0)).thenComparing(v -> v.vector().get(1))
            .thenComparing(v -> v.vector().get(2)).thenComparing(v -> v.vector().get(3));

    private final List<Set<Version>> standing = new ArrayList<>();
    private final List<TreeMap<String, List<Integer>>> knowledge = new ArrayList<>();
    private final List<List<Version>> rows = new ArrayList<>();
    private final List<TreeMap<String, List<Integer>>> tables = new ArrayList<>();
    private int left = 0;

    Model() {
        for (int i = 0; i < 4; i++) {
            standing.add(new HashSet<>());
            knowledge.add(new TreeMap<>());
            rows.add(new ArrayList<>());
            tables.add(new TreeMap<>());
        }
    }

    private static String key(int station, int document) {
        return station + "/" + document;
    }

    private static boolean covers(List<Integer> one, List<Integer> other) {
        return one.equals(join(one, other));
    }

    private static List<Integer> join(List<Integer> one, List<Integer> other) {
        List<Integer> both = new ArrayList<>();
        for (int j = 0; j < 4; j++) {
            both.add(one.get(j) > other.get(j) ? one.get(j) : other.get(j));
        }
        return both;
    }

    private List<Integer> vector(int station, int other, int document) {
        return knowledge.get(station).getOrDefault(key(other, document), ZEROS);
    }

    private static void exist(int number, int end) {
        if (number < 0 || number >= end) {
            throw new NoSuchElementException();
        }
    }

    private static void inside(int number, int least, int end) {
        if (number < least || number >= end) {
            throw new IndexOutOfBoundsException();
        }
    }

    private static int bytesOf(Set<Version> versions) {
        return versions.stream().mapToInt(Version::size).sum();
    }

    /** Null if nothing happens as its own covers it, else whether it came to stand and was not left out. */
    private Boolean comesToStand(int station, Version v) {
        List<Integer> own = vector(station, station, v.document());
        if (covers(own, v.vector())) {
            return null;
        }
        Set<Version> then = new HashSet<>(standing.get(station));
        then.removeIf(w -> w.document() == v.document() && covers(v.vector(), w.vector()));
        then.add(v);
        if (bytesOf(then) > 300) {
            return false;
        }
        standing.set(station, then);
        knowledge.get(station).put(key(station, v.document()), join(own, v.vector()));
        return true;
    }

    private void make(int station, int document, List<Integer> bytes) {
        List<Integer> next = new ArrayList<>(vector(station, station, document));
        next.set(station, next.get(station) + 1);
        if (next.get(station) > 200 || !comesToStand(station, new Version(document, next, bytes))) {
            throw new UnsupportedOperationException();
        }
    }

    void edit(int station, int document, int length, int fill) {
        exist(station, 4);
        exist(document, 10);
        if (length < 0 || length > 40 || fill < 0 || fill > 255) {
            throw new IllegalArgumentException();
        }
        List<Integer> bytes = new ArrayList<>();
        for (int i = 0; i < length; i++) {
            bytes.add((fill + i) & 255);
        }
        make(station, document, bytes);
    }

    void erase(int station, int document) {
        exist(station, 4);
        exist(document, 10);
        make(station, document, null);
    }

    private List<Version> withBytes(int station, int document) {
        exist(station, 4);
        exist(document, 10);
        return standing.get(station).stream().filter(v -> v.document() == document && !v.mark())
                .sorted(IN_ORDER).toList();
    }

    int siblings(int station, int document) {
        return withBytes(station, document).size();
    }

    int counter(int station, int document, int k, int j) {
        List<Version> all = withBytes(station, document);
        exist(k, all.size());
        inside(j, 0, 4);
        return all.get(k).vector().get(j);
    }

    int byteOf(int station, int document, int k, int i) {
        List<Version> all = withBytes(station, document);
        exist(k, all.size());
        List<Integer> bytes = all.get(k).bytes();
        inside(i, -1, bytes.size());
        return i == -1 ? bytes.size() : bytes.get(i);
    }

    int visit(int cartridge, int station, int destinations) {
        return cut(cartridge, station, destinations, 1000);
    }

    int cut(int cartridge, int station, int destinations, int n) {
        exist(cartridge, 3);
        exist(station, 4);
        if (n < 0) {
            throw new IllegalArgumentException();
        }
        int moved = 0;
        for (Version v : List.copyOf(rows.get(cartridge))) {
            if (moved == n) {
                return 0;
            }
            rows.get(cartridge).remove(v);
            if (Boolean.FALSE.equals(comesToStand(station, v))) {
                left++;
            }
            moved++;
        }
        tables.get(cartridge).forEach((key, vector) -> {
            if (!key.startsWith(station + "/")) {
                knowledge.get(station).merge(key, vector, Model::join);
            }
        });
        standing.get(station).removeIf(v -> v.mark() && lackers(station, v, 15).isEmpty());
        tables.set(cartridge, new TreeMap<>(knowledge.get(station)));
        int others = destinations & ~(1 << station);
        List<Version> due = standing.get(station).stream().filter(v -> !lackers(station, v, others).isEmpty())
                .sorted(Comparator.comparing(Version::sum).thenComparing(Version::document)
                        .thenComparing(IN_ORDER)).toList();
        int loaded = 0;
        for (Version v : due) {
            if (8 + v.size() > room(cartridge)) {
                continue;
            }
            if (moved == n) {
                return loaded;
            }
            rows.get(cartridge).add(v);
            moved++;
            loaded++;
        }
        return loaded;
    }

    private Set<Integer> lackers(int station, Version v, int among) {
        Set<Integer> answer = new HashSet<>();
        for (int other = 0; other < 4; other++) {
            if ((among & 1 << other) != 0 && !covers(vector(station, other, v.document()), v.vector())) {
                answer.add(other);
            }
        }
        return answer;
    }

    int lose(int cartridge) {
        exist(cartridge, 3);
        tables.set(cartridge, new TreeMap<>());
        return rows.set(cartridge, new ArrayList<>()).size();
    }

    void copy(int from, int to) {
        exist(from, 3);
        exist(to, 3);
        rows.set(to, new ArrayList<>(rows.get(from)));
        tables.set(to, new TreeMap<>(tables.get(from)));
    }

    int known(int station, int other, int document, int j) {
        exist(station, 4);
        exist(other, 4);
        exist(document, 10);
        inside(j, 0, 4);
        return vector(station, other, document).get(j);
    }

    int marks(int station) {
        exist(station, 4);
        return (int) standing.get(station).stream().filter(Version::mark).count();
    }

    int bytes(int station) {
        exist(station, 4);
        return bytesOf(standing.get(station));
    }

    boolean same(int a, int b) {
        exist(a, 4);
        exist(b, 4);
        Set<Version> one = new HashSet<>(standing.get(a));
        Set<Version> other = new HashSet<>(standing.get(b));
        one.removeIf(Version::mark);
        other.removeIf(Version::mark);
        return one.equals(other);
    }

    int room(int cartridge) {
        exist(cartridge, 3);
        return 100 - rows.get(cartridge).stream().mapToInt(v -> 8 + v.size()).sum();
    }

    int item(int cartridge, int k, int what) {
        exist(cartridge, 3);
        exist(k, rows.get(cartridge).size());
        inside(what, 0, 6);
        Version v = rows.get(cartridge).get(k);
        return what == 0 ? v.document() : what == 1 ? (v.mark() ? -1 : v.size()) : v.vector().get(what - 2);
    }

    int leftOut() {
        return left;
    }
}
