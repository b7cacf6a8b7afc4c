import java.util.ArrayList;
import java.util.Arrays;
import java.util.NoSuchElementException;

/** Stations without any wire that keep the same documents, which cartridges carry between them. */
public final class FolderRounds {
    private static final int STATIONS = 4;
    private static final int DOCUMENTS = 10;
    private static final int CARTRIDGES = 3;
    private static final int MOST_OF_A_COUNTER = 200;
    private static final int MOST_BYTES_OF_A_VERSION = 40;
    private static final int MOST_BYTES_OF_A_STATION = 300;
    private static final int BYTE_VALUES = 256;
    private static final int ROOM_OF_A_CARTRIDGE = 100;
    private static final int ROOM_BESIDE_BYTES = 8;
    private static final int LENGTH_OF_A_MARK = -1;
    // A visit moves a few dozen versions at most, so it never comes to this limit.
    private static final int NO_CUT = 1000000;

    private final Station[] stations;
    private final Cartridge[] cartridges;
    // One list for the loading of every visit: what a run makes is counted.
    private final ArrayList<Version> toLoad;
    private int leftOutSoFar;

    public FolderRounds() {
        stations = new Station[STATIONS];
        for (int i = 0; i < STATIONS; i++) {
            stations[i] = new Station(i);
        }
        cartridges = new Cartridge[CARTRIDGES];
        for (int i = 0; i < CARTRIDGES; i++) {
            cartridges[i] = new Cartridge();
        }
        toLoad = new ArrayList<Version>();
        leftOutSoFar = 0;
    }

    public void edit(int station, int document, int length, int fill)
            throws NoSuchElementException, IllegalArgumentException, UnsupportedOperationException {
        Station at = stationAt(station);
        checkDocument(document);
        if (length < 0 || length > MOST_BYTES_OF_A_VERSION || fill < 0 || fill >= BYTE_VALUES) {
            throw new IllegalArgumentException();
        }
        makeVersion(at, document, length, fill);
    }

    public void erase(int station, int document)
            throws NoSuchElementException, UnsupportedOperationException {
        Station at = stationAt(station);
        checkDocument(document);
        makeVersion(at, document, LENGTH_OF_A_MARK, 0);
    }

    public int siblings(int station, int document) throws NoSuchElementException {
        Station at = stationAt(station);
        checkDocument(document);
        return at.countSiblings(document);
    }

    public int counter(int station, int document, int k, int j)
            throws NoSuchElementException, IndexOutOfBoundsException {
        Version version = siblingAt(station, document, k);
        checkCounter(j);
        return version.vector[j];
    }

    public int byteOf(int station, int document, int k, int i)
            throws NoSuchElementException, IndexOutOfBoundsException {
        Version version = siblingAt(station, document, k);
        if (i < -1 || i >= version.length) {
            throw new IndexOutOfBoundsException();
        }
        return i == -1 ? version.length : (version.fill + i) % BYTE_VALUES;
    }

    public int visit(int cartridge, int station, int destinations) throws NoSuchElementException {
        return goThrough(cartridgeAt(cartridge), stationAt(station), destinations, NO_CUT);
    }

    public int cut(int cartridge, int station, int destinations, int n)
            throws NoSuchElementException, IllegalArgumentException {
        Cartridge carried = cartridgeAt(cartridge);
        Station at = stationAt(station);
        if (n < 0) {
            throw new IllegalArgumentException();
        }
        return goThrough(carried, at, destinations, n);
    }

    public int lose(int cartridge) throws NoSuchElementException {
        Cartridge lost = cartridgeAt(cartridge);
        int had = lost.row.size();
        lost.row.clear();
        lost.table.becomeZeros();
        return had;
    }

    public void copy(int from, int to) throws NoSuchElementException {
        Cartridge source = cartridgeAt(from);
        Cartridge target = cartridgeAt(to);
        if (from != to) {
            target.become(source);
        }
    }

    public int known(int station, int other, int document, int j)
            throws NoSuchElementException, IndexOutOfBoundsException {
        Station at = stationAt(station);
        checkStation(other);
        checkDocument(document);
        checkCounter(j);
        return at.knows.counterAt(other, document, j);
    }

    public int marks(int station) throws NoSuchElementException {
        return stationAt(station).countMarks();
    }

    public int bytes(int station) throws NoSuchElementException {
        return stationAt(station).countBytes();
    }

    public boolean same(int a, int b) throws NoSuchElementException {
        Station one = stationAt(a);
        Station other = stationAt(b);
        return one.hasSameSiblingsAs(other);
    }

    public int room(int cartridge) throws NoSuchElementException {
        return cartridgeAt(cartridge).roomLeft();
    }

    public int item(int cartridge, int k, int what)
            throws NoSuchElementException, IndexOutOfBoundsException {
        Cartridge carried = cartridgeAt(cartridge);
        if (k < 0 || k >= carried.row.size()) {
            throw new NoSuchElementException();
        }
        if (what < 0 || what >= 2 + STATIONS) {
            throw new IndexOutOfBoundsException();
        }
        Version version = carried.row.get(k);
        switch (what) {
            case 0:
                return version.document;
            case 1:
                return version.length;
            default:
                return version.vector[what - 2];
        }
    }

    public int leftOut() {
        return leftOutSoFar;
    }

    private static void checkStation(int station) {
        if (station < 0 || station >= STATIONS) {
            throw new NoSuchElementException();
        }
    }

    private static void checkDocument(int document) {
        if (document < 0 || document >= DOCUMENTS) {
            throw new NoSuchElementException();
        }
    }

    private static void checkCounter(int j) {
        if (j < 0 || j >= STATIONS) {
            throw new IndexOutOfBoundsException();
        }
    }

    private Station stationAt(int station) {
        checkStation(station);
        return stations[station];
    }

    private Cartridge cartridgeAt(int cartridge) {
        if (cartridge < 0 || cartridge >= CARTRIDGES) {
            throw new NoSuchElementException();
        }
        return cartridges[cartridge];
    }

    private Version siblingAt(int station, int document, int k) {
        Station at = stationAt(station);
        checkDocument(document);
        Version version = at.findSibling(document, k);
        if (version == null) {
            throw new NoSuchElementException();
        }
        return version;
    }

    private static void makeVersion(Station at, int document, int length, int fill) {
        if (at.ownCounter(document) >= MOST_OF_A_COUNTER) {
            throw new UnsupportedOperationException();
        }
        // What does not fit is refused and not counted as left out: a call that throws changes nothing.
        if (!at.takeIn(at.nextVersion(document, length, fill))) {
            throw new UnsupportedOperationException();
        }
    }

    /** A visit that is over when another version would move after so many; answers how many were loaded. */
    private int goThrough(Cartridge carried, Station at, int destinations, int most) {
        int unloaded = unload(carried, at, most);
        if (!carried.row.isEmpty()) {
            return 0;
        }
        at.learn(carried.table);
        at.dropMarksThatAllHave();
        carried.table.become(at.knows);
        return load(carried, at, destinations, most - unloaded);
    }

    private int unload(Cartridge carried, Station at, int most) {
        int due = Math.min(carried.row.size(), most);
        for (int i = 0; i < due && !carried.row.isEmpty(); i++) {
            Version version = carried.row.remove(0);
            if (at.lacks(version) && !at.takeIn(version)) {
                leftOutSoFar++;
            }
        }
        return due;
    }

    private int load(Cartridge carried, Station at, int destinations, int most) {
        chooseWhatToLoad(at, destinations);
        int loaded = 0;
        for (int i = 0; i < toLoad.size() && loaded < most; i++) {
            Version version = toLoad.get(i);
            if (version.roomTaken() <= carried.roomLeft()) {
                carried.row.add(version);
                loaded++;
            }
        }
        return loaded;
    }

    private void chooseWhatToLoad(Station at, int destinations) {
        toLoad.clear();
        for (int i = 0; i < at.standing.size(); i++) {
            Version version = at.standing.get(i);
            if (at.knowsLackAmong(destinations, version)) {
                addBySum(version);
            }
        }
    }

    // What stands is already by document and in order, so behind equal sums is the right place.
    private void addBySum(Version version) {
        int sum = version.sumOfCounters();
        int place = toLoad.size();
        while (place > 0 && toLoad.get(place - 1).sumOfCounters() > sum) {
            place--;
        }
        toLoad.add(place, version);
    }

    /** One state of a document, never changed, so that stations and cartridges can share it. */
    private static final class Version {
        final int document;
        final int length;
        final int fill;
        final int[] vector;

        Version(int document, int length, int fill, int[] vector) {
            this.document = document;
            this.length = length;
            this.fill = fill;
            this.vector = vector;
        }

        boolean isMark() {
            return length == LENGTH_OF_A_MARK;
        }

        boolean hasBytesOf(int ofDocument) {
            return document == ofDocument && !isMark();
        }

        int byteCount() {
            return isMark() ? 0 : length;
        }

        int roomTaken() {
            return ROOM_BESIDE_BYTES + byteCount();
        }

        int sumOfCounters() {
            int sum = 0;
            for (int j = 0; j < STATIONS; j++) {
                sum += vector[j];
            }
            return sum;
        }

        boolean replaces(Version other) {
            if (document != other.document) {
                return false;
            }
            for (int j = 0; j < STATIONS; j++) {
                if (vector[j] < other.vector[j]) {
                    return false;
                }
            }
            return true;
        }

        /** Below 0, 0 or above 0: by document, then in order. */
        int compareWith(Version other) {
            int answer = Integer.compare(document, other.document);
            for (int j = 0; j < STATIONS && answer == 0; j++) {
                answer = Integer.compare(vector[j], other.vector[j]);
            }
            return answer;
        }
    }

    /** A vector for each station and document, all in one row. */
    private static final class Table {
        final int[] counters;

        Table() {
            counters = new int[STATIONS * DOCUMENTS * STATIONS];
        }

        static int startOf(int station, int document) {
            return (station * DOCUMENTS + document) * STATIONS;
        }

        int counterAt(int station, int document, int j) {
            return counters[startOf(station, document) + j];
        }

        int[] vectorAt(int station, int document) {
            int start = startOf(station, document);
            return Arrays.copyOfRange(counters, start, start + STATIONS);
        }

        boolean covers(int station, Version version) {
            int start = startOf(station, version.document);
            for (int j = 0; j < STATIONS; j++) {
                if (counters[start + j] < version.vector[j]) {
                    return false;
                }
            }
            return true;
        }

        void joinVersion(int station, Version version) {
            int start = startOf(station, version.document);
            for (int j = 0; j < STATIONS; j++) {
                counters[start + j] = Math.max(counters[start + j], version.vector[j]);
            }
        }

        void joinStation(int station, Table other) {
            int end = startOf(station, DOCUMENTS);
            for (int i = startOf(station, 0); i < end; i++) {
                counters[i] = Math.max(counters[i], other.counters[i]);
            }
        }

        void become(Table other) {
            System.arraycopy(other.counters, 0, counters, 0, counters.length);
        }

        void becomeZeros() {
            Arrays.fill(counters, 0);
        }
    }

    /** What stands at a station, by document and in order, and what it knows that each one had. */
    private static final class Station {
        final int number;
        final ArrayList<Version> standing;
        final Table knows;

        Station(int number) {
            this.number = number;
            standing = new ArrayList<Version>();
            knows = new Table();
        }

        int ownCounter(int document) {
            return knows.counterAt(number, document, number);
        }

        Version nextVersion(int document, int length, int fill) {
            int[] vector = knows.vectorAt(number, document);
            vector[number]++;
            return new Version(document, length, fill, vector);
        }

        boolean lacks(Version version) {
            return !knows.covers(number, version);
        }

        /** Lets a version that is lacked come to stand; answers false, changing nothing, if there is no room. */
        boolean takeIn(Version version) {
            if (bytesWith(version) > MOST_BYTES_OF_A_STATION) {
                return false;
            }
            removeReplaced(version);
            insert(version);
            knows.joinVersion(number, version);
            return true;
        }

        int bytesWith(Version version) {
            int sum = version.byteCount();
            for (int i = 0; i < standing.size(); i++) {
                Version other = standing.get(i);
                if (!version.replaces(other)) {
                    sum += other.byteCount();
                }
            }
            return sum;
        }

        void removeReplaced(Version version) {
            for (int i = standing.size() - 1; i >= 0; i--) {
                if (version.replaces(standing.get(i))) {
                    standing.remove(i);
                }
            }
        }

        void insert(Version version) {
            int place = standing.size();
            while (place > 0 && standing.get(place - 1).compareWith(version) > 0) {
                place--;
            }
            standing.add(place, version);
        }

        // Its own stays: only what comes to stand here can make it greater.
        void learn(Table table) {
            for (int other = 0; other < STATIONS; other++) {
                if (other != number) {
                    knows.joinStation(other, table);
                }
            }
        }

        void dropMarksThatAllHave() {
            for (int i = standing.size() - 1; i >= 0; i--) {
                Version version = standing.get(i);
                if (version.isMark() && allHave(version)) {
                    standing.remove(i);
                }
            }
        }

        boolean allHave(Version version) {
            for (int other = 0; other < STATIONS; other++) {
                if (!knows.covers(other, version)) {
                    return false;
                }
            }
            return true;
        }

        boolean knowsLackAmong(int destinations, Version version) {
            for (int other = 0; other < STATIONS; other++) {
                boolean isDestination = other != number && (destinations >> other & 1) == 1;
                if (isDestination && !knows.covers(other, version)) {
                    return true;
                }
            }
            return false;
        }

        int countSiblings(int document) {
            int count = 0;
            for (int i = 0; i < standing.size(); i++) {
                if (standing.get(i).hasBytesOf(document)) {
                    count++;
                }
            }
            return count;
        }

        /** The k-th of a document's versions with bytes; null if there is none. */
        Version findSibling(int document, int k) {
            int before = 0;
            for (int i = 0; i < standing.size(); i++) {
                Version version = standing.get(i);
                if (version.hasBytesOf(document)) {
                    if (before == k) {
                        return version;
                    }
                    before++;
                }
            }
            return null;
        }

        int countMarks() {
            int count = 0;
            for (int i = 0; i < standing.size(); i++) {
                if (standing.get(i).isMark()) {
                    count++;
                }
            }
            return count;
        }

        int countBytes() {
            int sum = 0;
            for (int i = 0; i < standing.size(); i++) {
                sum += standing.get(i).byteCount();
            }
            return sum;
        }

        // No two versions of a document ever get the same vector, so bytes need not be compared.
        boolean hasSameSiblingsAs(Station other) {
            int theirs = other.skipMarks(0);
            for (int i = 0; i < standing.size(); i++) {
                Version mine = standing.get(i);
                if (mine.isMark()) {
                    continue;
                }
                if (theirs >= other.standing.size()
                        || mine.compareWith(other.standing.get(theirs)) != 0) {
                    return false;
                }
                theirs = other.skipMarks(theirs + 1);
            }
            return theirs >= other.standing.size();
        }

        int skipMarks(int from) {
            int place = from;
            while (place < standing.size() && standing.get(place).isMark()) {
                place++;
            }
            return place;
        }
    }

    /** Versions in a row, and a table of what the station that loaded it knew. */
    private static final class Cartridge {
        final ArrayList<Version> row;
        final Table table;

        Cartridge() {
            row = new ArrayList<Version>();
            table = new Table();
        }

        int roomLeft() {
            int room = ROOM_OF_A_CARTRIDGE;
            for (int i = 0; i < row.size(); i++) {
                room -= row.get(i).roomTaken();
            }
            return room;
        }

        void become(Cartridge other) {
            row.clear();
            for (int i = 0; i < other.row.size(); i++) {
                row.add(other.row.get(i));
            }
            table.become(other.table);
        }
    }
}
