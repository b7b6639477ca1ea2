import java.util.Arrays;

/**
 * A store of keys whose values lie in a log apart: batches are written to the log, sorted tables of
 * keys are merged from level to level, snapshots go on seeing what they saw, values expire, the log's
 * oldest segment is collected, and a crash loses nothing that was synced.
 */
public final class LayerVault {
    public static final int BAD = -1;
    public static final int NONE = -2;
    public static final int FULL = -3;

    private static final int NOW = -1;
    private static final int UNSEEING = -1;
    private static final int NO_KEY = -1;
    private static final int KEYS = 32;
    private static final int LONGEST_LIFE = 1000;
    private static final int LONGEST_TICK = 1000;
    private static final int BATCH_ROOM = 6;
    private static final int MEMTABLE_ROOM = 8;
    private static final int SNAPSHOT_ROOM = 3;
    private static final int SEGMENT_CELLS = 16;
    private static final int SEGMENT_ROOM = 8;
    private static final int MOVED_RECORD = 6;

    private static final int LEVELS = 3;
    private static final int TOP_TABLES = 4;
    private static final int CUT = 6;
    private static final int MIDDLE_LIMIT = 12;
    // Before it is merged on, level 1 may hold what it was left with and all of a crowded level 0.
    private static final int MIDDLE_ROOM = MIDDLE_LIMIT + TOP_TABLES * MEMTABLE_ROOM;
    // Sifting leaves of each key the newest entry and at most one for each snapshot.
    private static final int BOTTOM_ROOM = KEYS * (SNAPSHOT_ROOM + 1);

    private final Entry blank;
    private final Row batch;
    private final Row memtable;
    private final Level top;
    private final Level middle;
    private final Level bottom;
    private final Row sieve;
    private final Row moved;
    private final Log log;
    private final Snapshots snapshots;
    private int time;
    private int latestSerial;
    private int lookedIn;
    private int latestProbes;

    public LayerVault() {
        blank = new Entry(NO_KEY, 0, 0, true);
        batch = new Row(BATCH_ROOM, blank);
        memtable = new Row(MEMTABLE_ROOM, blank);
        top = new Level(TOP_TABLES, MEMTABLE_ROOM, blank);
        middle = new Level(tablesFor(MIDDLE_ROOM), CUT, blank);
        bottom = new Level(tablesFor(BOTTOM_ROOM), CUT, blank);
        sieve = new Row(MIDDLE_ROOM + BOTTOM_ROOM, blank);
        moved = new Row(SEGMENT_CELLS, blank);
        log = new Log();
        snapshots = new Snapshots();
    }

    public int put(int key, int value, int life) {
        if (!isKey(key) || life < 0 || life > LONGEST_LIFE) {
            return BAD;
        }
        return makeReady(key, value, life, false);
    }

    public int delete(int key) {
        if (!isKey(key)) {
            return BAD;
        }
        return makeReady(key, 0, 0, true);
    }

    public int commit() {
        int writes = batch.size();
        if (writes == 0) {
            return NONE;
        }
        if (log.isFullFor(writes)) {
            return FULL;
        }
        if (memtable.size() + writes > MEMTABLE_ROOM) {
            emptyMemtable();
        }
        writeBatch();
        return writes;
    }

    public int sync() {
        return log.syncAll();
    }

    public int flush() {
        return emptyMemtable();
    }

    public int merge(int level) {
        if (level != 0 && level != 1) {
            return BAD;
        }
        if (levelAt(level).tableCount() == 0) {
            return NONE;
        }
        return level == 0 ? mergeTop() : mergePair(middle, bottom);
    }

    public int collect() {
        if (log.segmentCount() <= 1) {
            return NONE;
        }
        emptyMemtable();
        gatherLiveOfTail();
        if (log.segmentsWith(moved.size()) > SEGMENT_ROOM) {
            return FULL;
        }
        writeMovedAgain();
        log.syncAll();
        log.dropTail();
        return moved.size();
    }

    public int take() {
        return snapshots.open(latestSerial);
    }

    public boolean release(int snapshot) {
        return snapshots.close(snapshot);
    }

    public int tick(int n) {
        if (n < 0 || n > LONGEST_TICK) {
            return BAD;
        }
        time += n;
        return time;
    }

    public int crash(int keep) {
        snapshots.closeAll();
        batch.clear();
        int unsynced = log.unsyncedCount();
        int kept = Math.max(0, Math.min(keep, unsynced));
        if (kept < unsynced) {
            loseRecordsFrom(kept);
        }
        log.syncAll();
        return unsynced - kept;
    }

    public boolean has(int snapshot, int key) {
        return !getEntry(snapshot, key).isGone(time);
    }

    public int get(int snapshot, int key) {
        Entry found = getEntry(snapshot, key);
        return found.isGone(time) ? 0 : found.value;
    }

    public int scan(int snapshot, int from, int k) {
        int sight = sightOf(snapshot);
        if (sight == UNSEEING || k < 0) {
            return BAD;
        }
        int passed = 0;
        for (int key = Math.max(from, 0); key < KEYS; key++) {
            if (!seek(key, sight).isGone(time)) {
                if (passed == k) {
                    return key;
                }
                passed++;
            }
        }
        return NONE;
    }

    public int probes() {
        return latestProbes;
    }

    public int table(int level, int k, int what) {
        if (level < 0 || level >= LEVELS) {
            return NONE;
        }
        Level asked = levelAt(level);
        if (k == -1) {
            return asked.tableCount();
        }
        if (k < 0 || k >= asked.tableCount()) {
            return NONE;
        }
        return asked.tableAt(k).tell(what);
    }

    public int segment(int k, int what) {
        if (k == -1) {
            return log.segmentCount();
        }
        if (k < 0 || k >= log.segmentCount()) {
            return NONE;
        }
        switch (what) {
            case 0:
                return log.numberOf(k);
            case 1:
                return log.cellsTakenOf(k);
            case 2:
                return countLive(log.numberOf(k));
            default:
                return NONE;
        }
    }

    public int look(int what) {
        switch (what) {
            case 0:
                return memtable.size();
            case 1:
                return latestSerial;
            case 2:
                return log.unsyncedCount();
            case 3:
                return batch.size();
            case 4:
                return snapshots.count();
            default:
                return NONE;
        }
    }

    private static boolean isKey(int key) {
        return key >= 0 && key < KEYS;
    }

    private static int tablesFor(int entries) {
        return (entries + CUT - 1) / CUT;
    }

    private Level levelAt(int level) {
        return level == 0 ? top : level == 1 ? middle : bottom;
    }

    private int sightOf(int snapshot) {
        return snapshot == NOW ? latestSerial : snapshots.sightOf(snapshot);
    }

    private int makeReady(int key, int value, int life, boolean deletion) {
        if (batch.size() >= BATCH_ROOM) {
            return FULL;
        }
        batch.append(new Entry(key, value, life, deletion));
        return batch.size();
    }

    private void writeBatch() {
        log.markUnsynced(latestSerial);
        log.beginRecord(batch.size());
        for (int i = 0; i < batch.size(); i++) {
            Entry entry = batch.at(i);
            latestSerial++;
            entry.serial = latestSerial;
            entry.expiry = time + entry.life;
            log.place(entry);
            memtable.append(entry);
        }
        batch.clear();
    }

    private int emptyMemtable() {
        int had = memtable.size();
        if (had == 0) {
            return 0;
        }
        if (top.tableCount() >= TOP_TABLES) {
            mergeTop();
        }
        sieve.clear();
        for (int i = 0; i < had; i++) {
            sieve.insertByKey(memtable.at(i));
        }
        memtable.clear();
        sieve.dropUnseen(snapshots);
        top.addNewest(sieve);
        log.syncAll();
        return had;
    }

    private int mergeTop() {
        int dropped = mergePair(top, middle);
        if (sieve.size() > MIDDLE_LIMIT) {
            dropped += mergePair(middle, bottom);
        }
        return dropped;
    }

    /** Merges a level into the next one, leaving in the sieve what that one has then: how many were dropped. */
    private int mergePair(Level upper, Level lower) {
        sieve.clear();
        // The lower level is in order already: put in first, it leaves only the upper one's places to be found.
        lower.pourInto(sieve);
        upper.pourInto(sieve);
        int dropped = sieve.dropUnseen(snapshots);
        if (lower == bottom) {
            dropped += sieve.dropGone(time);
        }
        lower.cutFrom(sieve);
        return dropped;
    }

    private void gatherLiveOfTail() {
        moved.clear();
        for (int level = 0; level < LEVELS; level++) {
            levelAt(level).listLive(log.numberOf(0), moved);
        }
    }

    private void writeMovedAgain() {
        for (int i = 0; i < moved.size(); i++) {
            if (i % MOVED_RECORD == 0) {
                log.beginRecord(Math.min(MOVED_RECORD, moved.size() - i));
            }
            log.place(moved.at(i));
        }
    }

    private int countLive(int segmentNumber) {
        int live = memtable.countLive(segmentNumber);
        for (int level = 0; level < LEVELS; level++) {
            live += levelAt(level).countLive(segmentNumber);
        }
        return live;
    }

    private void loseRecordsFrom(int record) {
        int lastLeft = log.latestSerialBefore(record);
        // Whatever isn't synced hasn't been flushed either: its entries are the memtable's last ones.
        memtable.shorten(latestSerial - lastLeft);
        latestSerial = lastLeft;
        log.rewindTo(record);
    }

    private Entry getEntry(int snapshot, int key) {
        int sight = sightOf(snapshot);
        if (sight == UNSEEING || !isKey(key)) {
            return blank;
        }
        Entry found = seek(key, sight);
        latestProbes = lookedIn;
        return found;
    }

    private Entry seek(int key, int sight) {
        lookedIn = 0;
        Entry found = memtable.newestSeen(key, sight);
        for (int level = 0; level < LEVELS && found.isBlank(); level++) {
            found = seekInLevel(levelAt(level), key, sight);
        }
        return found;
    }

    private Entry seekInLevel(Level level, int key, int sight) {
        Entry found = blank;
        for (int k = 0; k < level.tableCount() && found.isBlank(); k++) {
            Table table = level.tableAt(k);
            if (table.mayHold(key)) {
                lookedIn++;
                found = table.row.newestSeen(key, sight);
            }
        }
        return found;
    }

    /** One write: a key with a value or a deletion. The blank one stands for no entry and counts as gone. */
    private static final class Entry {
        final int key;
        final int value;
        final int life;
        final boolean deletion;
        int serial;
        int expiry;
        int segmentNumber;
        int cell;

        Entry(int key, int value, int life, boolean deletion) {
            this.key = key;
            this.value = value;
            this.life = life;
            this.deletion = deletion;
        }

        boolean isBlank() {
            return key == NO_KEY;
        }

        boolean isGone(int now) {
            return deletion || life > 0 && now >= expiry;
        }

        boolean comesBefore(Entry other) {
            return key < other.key || key == other.key && serial > other.serial;
        }

        boolean isLiveIn(int number) {
            return !deletion && segmentNumber == number;
        }
    }

    /** Entries one after the other in a room made once; places without an entry hold the blank one. */
    private static final class Row {
        private final Entry blank;
        private final Entry[] entries;
        private int size;

        Row(int room, Entry blank) {
            this.blank = blank;
            entries = new Entry[room];
            for (int i = 0; i < room; i++) {
                entries[i] = blank;
            }
        }

        int size() {
            return size;
        }

        Entry at(int i) {
            return i >= 0 && i < size ? entries[i] : blank;
        }

        void clear() {
            size = 0;
        }

        void shorten(int by) {
            size = Math.max(0, size - Math.max(0, by));
        }

        void append(Entry entry) {
            if (size < entries.length) {
                entries[size] = entry;
                size++;
            }
        }

        void insertByKey(Entry entry) {
            int place = size;
            while (place > 0 && entry.comesBefore(entries[place - 1])) {
                place--;
            }
            insertAt(place, entry);
        }

        void insertByCell(Entry entry) {
            int place = size;
            while (place > 0 && entry.cell < entries[place - 1].cell) {
                place--;
            }
            insertAt(place, entry);
        }

        Entry newestSeen(int key, int sight) {
            Entry newest = blank;
            for (int i = 0; i < size; i++) {
                Entry entry = entries[i];
                if (entry.key == key && entry.serial <= sight && entry.serial > newest.serial) {
                    newest = entry;
                }
            }
            return newest;
        }

        int countLive(int segmentNumber) {
            int live = 0;
            for (int i = 0; i < size; i++) {
                if (entries[i].isLiveIn(segmentNumber)) {
                    live++;
                }
            }
            return live;
        }

        void listLive(int segmentNumber, Row target) {
            for (int i = 0; i < size; i++) {
                if (entries[i].isLiveIn(segmentNumber)) {
                    target.insertByCell(entries[i]);
                }
            }
        }

        /** The first half of sifting, for a row by key: how many entries were dropped. */
        int dropUnseen(Snapshots snapshots) {
            int left = 0;
            // The next greater one counts even if it was dropped itself, and its place may be taken by then.
            Entry greater = blank;
            for (int i = 0; i < size; i++) {
                Entry entry = entries[i];
                if (entry.key != greater.key || snapshots.tellApart(entry, greater)) {
                    entries[left] = entry;
                    left++;
                }
                greater = entry;
            }
            int dropped = size - left;
            size = left;
            return dropped;
        }

        /** The second half of sifting, for the lowest level: from the back, so that the lowest serial comes first. */
        int dropGone(int now) {
            int start = size;
            Entry lower = blank;
            for (int i = size - 1; i >= 0; i--) {
                Entry entry = entries[i];
                if (entry.key == lower.key || !entry.isGone(now)) {
                    start--;
                    entries[start] = entry;
                    lower = entry;
                }
            }
            size -= start;
            for (int i = 0; i < size; i++) {
                entries[i] = entries[start + i];
            }
            return start;
        }

        private void insertAt(int place, Entry entry) {
            if (size >= entries.length) {
                return;
            }
            for (int i = size; i > place; i--) {
                entries[i] = entries[i - 1];
            }
            entries[place] = entry;
            size++;
        }
    }

    /** A row of entries by key, with the filter of its keys. */
    private static final class Table {
        final Row row;
        private int filter;

        Table(int room, Entry blank) {
            row = new Row(room, blank);
        }

        void fillFrom(Row source, int start, int end) {
            row.clear();
            filter = 0;
            for (int i = start; i < end; i++) {
                row.append(source.at(i));
                filter |= bitsOf(source.at(i).key);
            }
        }

        boolean mayHold(int key) {
            int bits = bitsOf(key);
            return key >= firstKey() && key <= lastKey() && (filter & bits) == bits;
        }

        int tell(int what) {
            switch (what) {
                case 0:
                    return row.size();
                case 1:
                    return filter;
                case 2:
                    return firstKey();
                case 3:
                    return lastKey();
                case 4:
                    return greatestSerial();
                default:
                    return NONE;
            }
        }

        private static int bitsOf(int key) {
            return 1 << (5 * key + 1) % 32 | 1 << (11 * key + 7) % 32;
        }

        private int firstKey() {
            return row.at(0).key;
        }

        private int lastKey() {
            return row.at(row.size() - 1).key;
        }

        private int greatestSerial() {
            int greatest = 0;
            for (int i = 0; i < row.size(); i++) {
                greatest = Math.max(greatest, row.at(i).serial);
            }
            return greatest;
        }
    }

    /** The tables of one level, all made once and filled again. */
    private static final class Level {
        private final Table[] tables;
        private int count;

        Level(int room, int tableRoom, Entry blank) {
            tables = new Table[room];
            for (int k = 0; k < room; k++) {
                tables[k] = new Table(tableRoom, blank);
            }
        }

        int tableCount() {
            return count;
        }

        /** The k-th table, for a k that the caller has held against the count. */
        Table tableAt(int k) {
            return tables[k];
        }

        void addNewest(Row source) {
            if (count >= tables.length) {
                return;
            }
            Table spare = tables[count];
            for (int k = count; k > 0; k--) {
                tables[k] = tables[k - 1];
            }
            tables[0] = spare;
            spare.fillFrom(source, 0, source.size());
            count++;
        }

        void cutFrom(Row source) {
            count = Math.min(tablesFor(source.size()), tables.length);
            for (int k = 0; k < count; k++) {
                tables[k].fillFrom(source, k * CUT, Math.min(k * CUT + CUT, source.size()));
            }
        }

        void pourInto(Row target) {
            for (int k = 0; k < count; k++) {
                Row row = tables[k].row;
                for (int i = 0; i < row.size(); i++) {
                    target.insertByKey(row.at(i));
                }
            }
            count = 0;
        }

        int countLive(int segmentNumber) {
            int live = 0;
            for (int k = 0; k < count; k++) {
                live += tables[k].row.countLive(segmentNumber);
            }
            return live;
        }

        void listLive(int segmentNumber, Row target) {
            for (int k = 0; k < count; k++) {
                tables[k].row.listLive(segmentNumber, target);
            }
        }
    }

    /** The segments from the tail on, and where the log stood before each record that isn't synced. */
    private static final class Log {
        private final int[] taken = new int[SEGMENT_ROOM];
        private int tailNumber;
        private int count = 1;
        // Every record that isn't synced has an entry in the memtable, so there are no more of them than of those.
        private final int[] countBefore = new int[MEMTABLE_ROOM];
        private final int[] takenBefore = new int[MEMTABLE_ROOM];
        private final int[] serialBefore = new int[MEMTABLE_ROOM];
        private int unsynced;

        int segmentCount() {
            return count;
        }

        int numberOf(int k) {
            return tailNumber + k;
        }

        int cellsTakenOf(int k) {
            return k >= 0 && k < count ? taken[k] : 0;
        }

        int unsyncedCount() {
            return unsynced;
        }

        boolean isFullFor(int values) {
            return needsNewHead(values) && count >= SEGMENT_ROOM;
        }

        /** How many segments there are once so many values have been written again. */
        int segmentsWith(int values) {
            int segments = count;
            int room = SEGMENT_CELLS - taken[count - 1];
            for (int left = values; left > 0; left -= MOVED_RECORD) {
                int cells = 1 + Math.min(left, MOVED_RECORD);
                if (cells > room) {
                    segments++;
                    room = SEGMENT_CELLS;
                }
                room -= cells;
            }
            return segments;
        }

        void beginRecord(int values) {
            if (needsNewHead(values) && count < SEGMENT_ROOM) {
                taken[count] = 0;
                count++;
            }
            taken[count - 1]++;
        }

        void place(Entry entry) {
            entry.segmentNumber = numberOf(count - 1);
            entry.cell = taken[count - 1];
            taken[count - 1]++;
        }

        void dropTail() {
            if (count <= 1) {
                return;
            }
            count--;
            tailNumber++;
            System.arraycopy(taken, 1, taken, 0, count);
        }

        void markUnsynced(int latestSerial) {
            if (unsynced >= MEMTABLE_ROOM) {
                return;
            }
            countBefore[unsynced] = count;
            takenBefore[unsynced] = taken[count - 1];
            serialBefore[unsynced] = latestSerial;
            unsynced++;
        }

        int syncAll() {
            int were = unsynced;
            unsynced = 0;
            return were;
        }

        int latestSerialBefore(int record) {
            return record >= 0 && record < unsynced ? serialBefore[record] : 0;
        }

        void rewindTo(int record) {
            if (record < 0 || record >= unsynced) {
                return;
            }
            count = countBefore[record];
            taken[count - 1] = takenBefore[record];
            unsynced = record;
        }

        private boolean needsNewHead(int values) {
            return taken[count - 1] + 1 + values > SEGMENT_CELLS;
        }
    }

    /** For each snapshot the greatest serial that it sees. */
    private static final class Snapshots {
        // A number that isn't taken holds UNSEEING, which is below every serial and so sees no entry.
        private final int[] sights = new int[SNAPSHOT_ROOM];

        Snapshots() {
            Arrays.fill(sights, UNSEEING);
        }

        int count() {
            int there = 0;
            for (int i = 0; i < SNAPSHOT_ROOM; i++) {
                if (sights[i] != UNSEEING) {
                    there++;
                }
            }
            return there;
        }

        int open(int latestSerial) {
            for (int i = 0; i < SNAPSHOT_ROOM; i++) {
                if (sights[i] == UNSEEING) {
                    sights[i] = latestSerial;
                    return i;
                }
            }
            return FULL;
        }

        boolean close(int snapshot) {
            if (sightOf(snapshot) == UNSEEING) {
                return false;
            }
            sights[snapshot] = UNSEEING;
            return true;
        }

        void closeAll() {
            Arrays.fill(sights, UNSEEING);
        }

        int sightOf(int snapshot) {
            return snapshot >= 0 && snapshot < SNAPSHOT_ROOM ? sights[snapshot] : UNSEEING;
        }

        /** Whether some snapshot sees the lower one of two entries without the greater one. */
        boolean tellApart(Entry lower, Entry greater) {
            for (int i = 0; i < SNAPSHOT_ROOM; i++) {
                if (sights[i] >= lower.serial && sights[i] < greater.serial) {
                    return true;
                }
            }
            return false;
        }
    }
}
