import java.util.ArrayList;
import java.util.Arrays;
import java.util.List;
import java.util.Random;

/**
 * The document's first sentence, held against a history of all writes that drops nothing and knows neither tables nor
 * segments: whatever is merged, collected or lost in a crash, every reader sees what it should, and what was synced
 * stays. Each object has at most its 512 calls.
 */
final class HistoryTest {
    private static final int RUNS = 6000;
    private static final int CALLS = 512;
    private static final int UNSEEING = -1;

    private record Write(int key, int value, int life, boolean deletion, int time) {
        boolean isGone(int now) {
            return deletion || life > 0 && now >= time + life;
        }
    }

    private static final Due DUE = new Due();
    // How often what happened that this test is for: runs that never get there test nothing.
    private static int readsOfThePast;
    private static int collected;
    private static int lost;

    private final Random random;
    private final LayerVault vault = new LayerVault();
    private final List<Write> ready = new ArrayList<>();
    private final List<List<Write>> records = new ArrayList<>();
    private final int[] recordsSeen = {UNSEEING, UNSEEING, UNSEEING};
    private final int keys;
    private final int housekeeping;
    private int synced;
    private int time;

    private HistoryTest(int run) {
        DUE.about("run " + run);
        random = new Random(run);
        keys = random.nextBoolean() ? 32 : 2 + random.nextInt(6);
        housekeeping = 4 + random.nextInt(30);
    }

    public static void main(String[] args) {
        for (int run = 1; run <= RUNS; run++) {
            new HistoryTest(run).callAtRandom();
        }
        System.out.println("reads of the past " + readsOfThePast + ", segments collected " + collected
            + ", records lost " + lost);
        DUE.about("all runs");
        DUE.is("they get everywhere", readsOfThePast > 1000 && collected > 1000 && lost > 1000, true);
        DUE.end();
    }

    private void callAtRandom() {
        for (int call = 0; call < CALLS; call++) {
            int pick = random.nextInt(100);
            if (pick < 35) {
                makeReady();
            } else if (pick < 50) {
                commit();
            } else if (pick < 50 + housekeeping) {
                keepHouse();
            } else {
                read();
            }
        }
    }

    private void makeReady() {
        int key = random.nextInt(keys);
        boolean deletion = random.nextInt(5) == 0;
        int life = deletion || random.nextInt(3) > 0 ? 0 : 1 + random.nextInt(25);
        int value = random.nextInt(1000);
        int answer = deletion ? vault.delete(key) : vault.put(key, value, life);
        boolean full = ready.size() == 6;
        if (!full) {
            ready.add(new Write(key, value, life, deletion, 0));
        }
        DUE.is("put or delete", answer, full ? LayerVault.FULL : ready.size());
    }

    private void commit() {
        int answer = vault.commit();
        if (answer == LayerVault.FULL) {
            return;
        }
        DUE.is("commit()", answer, ready.isEmpty() ? LayerVault.NONE : ready.size());
        if (!ready.isEmpty()) {
            List<Write> written = new ArrayList<>();
            for (Write write : ready) {
                written.add(new Write(write.key, write.value, write.life, write.deletion, time));
            }
            records.add(written);
            ready.clear();
        }
    }

    private void keepHouse() {
        switch (random.nextInt(11)) {
            case 0 -> sync();
            case 1 -> flush();
            case 2, 3 -> vault.merge(random.nextInt(2));
            case 4, 5, 6 -> collect();
            case 7 -> take();
            case 8 -> release();
            case 9 -> tick();
            default -> crash();
        }
    }

    private void sync() {
        vault.sync();
        synced = records.size();
    }

    private void flush() {
        vault.flush();
        synced = records.size();
    }

    private void collect() {
        int answer = vault.collect();
        if (answer != LayerVault.NONE) {
            synced = records.size();
        }
        if (answer >= 0) {
            collected++;
        }
    }

    private void take() {
        int number = vault.take();
        int free = firstFree();
        DUE.is("take()", number, free);
        if (free != LayerVault.FULL) {
            recordsSeen[free] = records.size();
        }
    }

    private int firstFree() {
        for (int i = 0; i < recordsSeen.length; i++) {
            if (recordsSeen[i] == UNSEEING) {
                return i;
            }
        }
        return LayerVault.FULL;
    }

    private void release() {
        int snapshot = random.nextInt(3);
        DUE.is("release(" + snapshot + ")", vault.release(snapshot), recordsSeen[snapshot] != UNSEEING);
        recordsSeen[snapshot] = UNSEEING;
    }

    private void tick() {
        int n = random.nextInt(8);
        time += n;
        DUE.is("tick(" + n + ")", vault.tick(n), time);
    }

    private void crash() {
        int keep = random.nextInt(4);
        int answer = vault.crash(keep);
        int mayBeLost = Math.max(0, records.size() - synced - keep);
        DUE.is("crash(" + keep + ") loses what was synced or is to stay", answer > mayBeLost, false);
        for (int i = 0; i < answer && !records.isEmpty(); i++) {
            records.remove(records.size() - 1);
        }
        lost += answer;
        synced = records.size();
        ready.clear();
        Arrays.fill(recordsSeen, UNSEEING);
    }

    private void read() {
        int snapshot = random.nextInt(4) - 1;
        int key = random.nextInt(keys);
        boolean has = isThere(snapshot, key);
        switch (random.nextInt(3)) {
            case 0 -> DUE.is("has(" + snapshot + ", " + key + ")", vault.has(snapshot, key), has);
            case 1 -> DUE.is("get(" + snapshot + ", " + key + ")", vault.get(snapshot, key),
                has ? newest(snapshot, key).value : 0);
            default -> scan(snapshot, key, random.nextInt(4));
        }
        if (has && newest(snapshot, key) != newest(-1, key)) {
            readsOfThePast++;
        }
    }

    private void scan(int snapshot, int from, int k) {
        int want = exists(snapshot) ? LayerVault.NONE : LayerVault.BAD;
        int left = k;
        for (int key = from; key < 32 && want == LayerVault.NONE; key++) {
            if (isThere(snapshot, key)) {
                want = left == 0 ? key : want;
                left--;
            }
        }
        DUE.is("scan(" + snapshot + ", " + from + ", " + k + ")", vault.scan(snapshot, from, k), want);
    }

    private boolean exists(int snapshot) {
        return snapshot == -1 || recordsSeen[snapshot] != UNSEEING;
    }

    private boolean isThere(int snapshot, int key) {
        Write found = newest(snapshot, key);
        return found != null && !found.isGone(time);
    }

    private Write newest(int snapshot, int key) {
        int seen = !exists(snapshot) ? 0 : snapshot == -1 ? records.size() : recordsSeen[snapshot];
        Write newest = null;
        for (List<Write> record : records.subList(0, seen)) {
            for (Write write : record) {
                newest = write.key == key ? write : newest;
            }
        }
        return newest;
    }
}
