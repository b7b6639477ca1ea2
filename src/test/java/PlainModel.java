import java.util.ArrayList;
import java.util.Comparator;
import java.util.List;
import java.util.TreeMap;

/**
 * The document's words as plainly as the Java library lets them be said: the log is a list of records
 * with their values, a crash takes records off its end, and every set is sifted by its definition.
 */
final class PlainModel {
    private static final int BAD = -1;
    private static final int NONE = -2;
    private static final int FULL = -3;

    private static final class Item {
        int key;
        int serial;
        boolean deletion;
        int value;
        int life;
        Integer expires;
        Record home;
    }

    private static final class Record {
        final List<Item> values = new ArrayList<>();
        int segment;
        boolean synced;
    }

    private final List<Item> batch = new ArrayList<>();
    private List<Item> memtable = new ArrayList<>();
    private final List<List<Item>> level0 = new ArrayList<>();
    private List<Item> level1 = new ArrayList<>();
    private List<Item> level2 = new ArrayList<>();
    private final List<Record> records = new ArrayList<>();
    private final TreeMap<Integer, Integer> snapshots = new TreeMap<>();
    private int tail;
    private int head;
    private int time;
    private int latest;
    private int probes;

    int put(int key, int value, int life) {
        if (key < 0 || key > 31 || life < 0 || life > 1000) return BAD;
        return ready(key, value, life, false);
    }

    int delete(int key) {
        if (key < 0 || key > 31) return BAD;
        return ready(key, 0, 0, true);
    }

    private int ready(int key, int value, int life, boolean deletion) {
        if (batch.size() == 6) return FULL;
        Item item = new Item();
        item.key = key;
        item.value = value;
        item.life = life;
        item.deletion = deletion;
        batch.add(item);
        return batch.size();
    }

    int commit() {
        if (batch.isEmpty()) return NONE;
        boolean newHead = taken(head) + 1 + batch.size() > 16;
        if (newHead && head - tail + 1 == 8) return FULL;
        if (memtable.size() + batch.size() > 8) flush();
        for (Item item : batch) {
            item.serial = ++latest;
            item.expires = item.life > 0 ? time + item.life : null;
            memtable.add(item);
        }
        write(batch);
        int writes = batch.size();
        batch.clear();
        return writes;
    }

    private void write(List<Item> items) {
        if (taken(head) + 1 + items.size() > 16) head++;
        Record record = new Record();
        record.segment = head;
        record.values.addAll(items);
        for (Item item : items) item.home = record;
        records.add(record);
    }

    private int taken(int segment) {
        return records.stream().filter(r -> r.segment == segment).mapToInt(r -> 1 + r.values.size()).sum();
    }

    int sync() {
        int were = unsynced();
        for (Record record : records) record.synced = true;
        return were;
    }

    private int unsynced() {
        return (int) records.stream().filter(r -> !r.synced).count();
    }

    int flush() {
        int had = memtable.size();
        if (had == 0) return 0;
        if (level0.size() == 4) mergeLevel0();
        level0.add(0, sift(memtable, 0));
        memtable = new ArrayList<>();
        sync();
        return had;
    }

    int merge(int level) {
        if (level != 0 && level != 1) return BAD;
        if (level == 0 && level0.isEmpty() || level == 1 && level1.isEmpty()) return NONE;
        return level == 0 ? mergeLevel0() : mergeLevel1();
    }

    private int mergeLevel0() {
        List<Item> set = new ArrayList<>(level1);
        for (List<Item> table : level0) set.addAll(table);
        level0.clear();
        level1 = sift(set, 1);
        int dropped = set.size() - level1.size();
        return level1.size() > 12 ? dropped + mergeLevel1() : dropped;
    }

    private int mergeLevel1() {
        List<Item> set = new ArrayList<>(level1);
        set.addAll(level2);
        level1 = new ArrayList<>();
        level2 = sift(set, 2);
        return set.size() - level2.size();
    }

    private List<Item> sift(List<Item> set, int level) {
        List<Item> left = new ArrayList<>();
        for (Item e : set) {
            Item next = null;
            for (Item other : set) {
                if (other.key == e.key && other.serial > e.serial && (next == null || other.serial < next.serial)) {
                    next = other;
                }
            }
            boolean needed = next == null;
            for (int sight : snapshots.values()) needed |= next != null && e.serial <= sight && sight < next.serial;
            if (needed) left.add(e);
        }
        left.sort(Comparator.comparingInt((Item e) -> e.serial));
        if (level == 2) left = withoutGone(left);
        left.sort(Comparator.comparingInt((Item e) -> e.key).thenComparing(e -> -e.serial));
        return left;
    }

    private List<Item> withoutGone(List<Item> bySerial) {
        List<Item> left = new ArrayList<>();
        for (Item e : bySerial) {
            if (!gone(e) || left.stream().anyMatch(lower -> lower.key == e.key)) left.add(e);
        }
        return left;
    }

    private boolean gone(Item e) {
        return e.deletion || e.expires != null && time >= e.expires;
    }

    int collect() {
        if (tail == head) return NONE;
        flush();
        List<Item> all = everything();
        List<Item> live = new ArrayList<>();
        for (Record record : records) {
            if (record.segment != tail) continue;
            for (Item item : record.values) {
                if (!item.deletion && item.home == record && all.contains(item)) live.add(item);
            }
        }
        int oldHead = head;
        int oldRecords = records.size();
        List<Record> oldHomes = new ArrayList<>();
        for (Item item : live) oldHomes.add(item.home);
        for (int i = 0; i < live.size(); i += 6) write(live.subList(i, Math.min(i + 6, live.size())));
        if (head - tail + 1 > 8) {
            head = oldHead;
            while (records.size() > oldRecords) records.remove(records.size() - 1);
            for (int i = 0; i < live.size(); i++) live.get(i).home = oldHomes.get(i);
            return FULL;
        }
        sync();
        records.removeIf(r -> r.segment == tail);
        tail++;
        return live.size();
    }

    private List<Item> everything() {
        List<Item> all = new ArrayList<>(memtable);
        for (List<Item> table : level0) all.addAll(table);
        all.addAll(level1);
        all.addAll(level2);
        return all;
    }

    int take() {
        for (int number = 0; number < 3; number++) {
            if (!snapshots.containsKey(number)) {
                snapshots.put(number, latest);
                return number;
            }
        }
        return FULL;
    }

    boolean release(int snapshot) {
        return snapshots.remove(snapshot) != null;
    }

    int tick(int n) {
        if (n < 0 || n > 1000) return BAD;
        time += n;
        return time;
    }

    int crash(int keep) {
        snapshots.clear();
        batch.clear();
        int lost = Math.max(0, unsynced() - Math.max(0, keep));
        for (int i = 0; i < lost; i++) {
            Record record = records.remove(records.size() - 1);
            memtable.removeAll(record.values);
            latest -= record.values.size();
            if (taken(head) == 0 && head > tail) head--;
        }
        sync();
        return lost;
    }

    boolean has(int snapshot, int key) {
        Item found = lookFor(snapshot, key);
        return found != null && !gone(found);
    }

    int get(int snapshot, int key) {
        Item found = lookFor(snapshot, key);
        return found != null && !gone(found) ? found.value : 0;
    }

    private Item lookFor(int snapshot, int key) {
        if (!seeing(snapshot) || key < 0 || key > 31) return null;
        probes = 0;
        Item found = newest(memtable, snapshot, key);
        for (int level = 0; level < 3; level++) {
            for (List<Item> table : tables(level)) {
                if (found != null) return found;
                boolean between = key >= table.get(0).key && key <= table.get(table.size() - 1).key;
                long filter = filter(table);
                boolean bits = (filter >> (5 * key + 1) % 32 & 1) == 1 && (filter >> (11 * key + 7) % 32 & 1) == 1;
                if (between && bits) {
                    probes++;
                    found = newest(table, snapshot, key);
                }
            }
        }
        return found;
    }

    private boolean seeing(int snapshot) {
        return snapshot == -1 || snapshots.containsKey(snapshot);
    }

    private Item newest(List<Item> items, int snapshot, int key) {
        int sight = snapshot == -1 ? Integer.MAX_VALUE : snapshots.get(snapshot);
        return items.stream().filter(e -> e.key == key && e.serial <= sight)
            .max(Comparator.comparingInt(e -> e.serial)).orElse(null);
    }

    private static long filter(List<Item> table) {
        long filter = 0;
        for (Item e : table) filter |= 1L << (5 * e.key + 1) % 32 | 1L << (11 * e.key + 7) % 32;
        return filter;
    }

    int scan(int snapshot, int from, int k) {
        if (!seeing(snapshot) || k < 0) return BAD;
        List<Integer> keys = new ArrayList<>();
        List<Item> all = everything();
        for (int key = 0; key < 32; key++) {
            Item found = newest(all, snapshot, key);
            if (key >= from && found != null && !gone(found)) keys.add(key);
        }
        return k < keys.size() ? keys.get(k) : NONE;
    }

    int probes() {
        return probes;
    }

    private List<List<Item>> tables(int level) {
        if (level == 0) return level0;
        List<Item> row = level == 1 ? level1 : level2;
        List<List<Item>> tables = new ArrayList<>();
        for (int i = 0; i < row.size(); i += 6) tables.add(row.subList(i, Math.min(i + 6, row.size())));
        return tables;
    }

    int table(int level, int k, int what) {
        if (level < 0 || level > 2) return NONE;
        List<List<Item>> tables = tables(level);
        if (k == -1) return tables.size();
        if (k < 0 || k >= tables.size()) return NONE;
        List<Item> table = tables.get(k);
        if (what == 0) return table.size();
        if (what == 1) return (int) filter(table);
        if (what == 2) return table.get(0).key;
        if (what == 3) return table.get(table.size() - 1).key;
        if (what == 4) return table.stream().mapToInt(e -> e.serial).max().getAsInt();
        return NONE;
    }

    int segment(int k, int what) {
        if (k == -1) return head - tail + 1;
        if (k < 0 || k > head - tail) return NONE;
        if (what == 0) return tail + k;
        if (what == 1) return taken(tail + k);
        if (what == 2) {
            return (int) everything().stream().filter(e -> !e.deletion && e.home.segment == tail + k).count();
        }
        return NONE;
    }

    int look(int what) {
        if (what == 0) return memtable.size();
        if (what == 1) return latest;
        if (what == 2) return unsynced();
        if (what == 3) return batch.size();
        if (what == 4) return snapshots.size();
        return NONE;
    }
}
