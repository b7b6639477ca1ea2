import java.util.Random;

/** Runs of up to 512 calls, always the same ones, on the class and on the plain model side by side. */
final class ModelTest {
    private static final int RUNS = 1500;
    private static final int CALLS = 512;

    private final Due due = new Due();
    private final Random random;
    private final LayerVault vault = new LayerVault();
    private final PlainModel model = new PlainModel();
    private final int[] weights;
    private final int keys;
    // How often what happened that is easily missed: a test that never gets there tests nothing.
    private static int fullCommits;
    private static int fullCollects;
    private static int lostRecords;
    private static int followedMerges;

    private ModelTest(int run) {
        due.about("run " + run);
        random = new Random(run);
        keys = 1 + random.nextInt(random.nextBoolean() ? 34 : 6);
        weights = new int[] {
            40, 6 + random.nextInt(15), 20, random.nextInt(4), random.nextInt(8), random.nextInt(6),
            random.nextInt(14), random.nextInt(6), random.nextInt(5), random.nextInt(8), random.nextInt(3), 20, 8,
        };
    }

    public static void main(String[] args) {
        new ModelTest(0).fillToTheBrim();
        int runs = args.length > 0 ? Integer.parseInt(args[0]) : RUNS;
        for (int run = 1; run <= runs; run++) {
            new ModelTest(run).callAtRandom();
        }
        System.out.println("commits refused " + fullCommits + ", collects refused " + fullCollects
            + ", records lost " + lostRecords + ", merges that went on " + followedMerges);
        boolean thorough = fullCommits > 100 && fullCollects > 100 && lostRecords > 100 && followedMerges > 100;
        System.out.println(thorough ? "all runs agree" : "the runs do not get everywhere");
        System.exit(thorough ? 0 : 1);
    }

    private void callAtRandom() {
        for (int call = 0; call < CALLS; call++) {
            callBoth();
            compareInsides();
        }
    }

    /** Level 2 with four entries of every key, then 44 entries more that go into it at once. */
    private void fillToTheBrim() {
        due.about("the fullest store");
        for (int key = 0; key < 32; key++) {
            due.is("put", vault.put(key, 1000 + key, 0), model.put(key, 1000 + key, 0));
            commitEvery(6, key);
        }
        commit();
        for (int snapshot = 0; snapshot < 3; snapshot++) {
            makeRoom();
            due.is("take()", vault.take(), model.take());
            deleteKeys(32, 6);
        }
        due.is("flush()", vault.flush(), model.flush());
        due.is("merge(0)", vault.merge(0), model.merge(0));
        due.is("merge(1)", vault.merge(1), model.merge(1));
        due.is("the tables of level 2", vault.table(2, -1, 0), 22);
        due.is("the last one's entries", vault.table(2, 21, 0), 2);
        for (int snapshot = 0; snapshot < 3; snapshot++) {
            due.is("release", vault.release(snapshot), model.release(snapshot));
        }
        deleteKeys(12, 6);
        due.is("flush()", vault.flush(), model.flush());
        due.is("merge(0)", vault.merge(0), model.merge(0));
        makeRoom();
        due.is("take()", vault.take(), model.take());
        deleteKeys(32, 4);
        due.is("flush()", vault.flush(), model.flush());
        due.is("the tables of level 0", vault.table(0, -1, 0), 4);
        due.is("the tables of level 1", vault.table(1, -1, 0), 2);
        compareInsides();
        due.is("merge(0) of 44 into 128", vault.merge(0), model.merge(0));
        compareInsides();
    }

    private void makeRoom() {
        for (int i = 0; i < 8 && model.segment(-1, 0) > 4; i++) {
            collect();
        }
    }

    private void deleteKeys(int count, int batch) {
        for (int key = 0; key < count; key++) {
            due.is("delete", vault.delete(key), model.delete(key));
            commitEvery(batch, key);
        }
        commit();
    }

    private void commitEvery(int batch, int key) {
        if (key % batch == batch - 1) {
            commit();
            compareInsides();
        }
    }

    private int pickCall() {
        int sum = 0;
        for (int weight : weights) {
            sum += weight;
        }
        int left = random.nextInt(sum);
        int call = 0;
        while (left >= weights[call]) {
            left -= weights[call];
            call++;
        }
        return call;
    }

    private int near(int low, int high) {
        return low - 1 + random.nextInt(high - low + 3);
    }

    private int key() {
        return random.nextInt(keys + 1) - (random.nextInt(20) == 0 ? 1 : 0);
    }

    private void callBoth() {
        switch (pickCall()) {
            case 0 -> put();
            case 1 -> delete();
            case 2 -> commit();
            case 3 -> due.is("sync()", vault.sync(), model.sync());
            case 4 -> due.is("flush()", vault.flush(), model.flush());
            case 5 -> merge();
            case 6 -> collect();
            case 7 -> due.is("take()", vault.take(), model.take());
            case 8 -> release();
            case 9 -> tick();
            case 10 -> crash();
            case 11 -> get();
            default -> scan();
        }
    }

    private void put() {
        int key = key();
        int value = random.nextInt();
        int life = random.nextInt(3) > 0 ? 0 : random.nextInt(10) > 0 ? random.nextInt(30) : near(0, 1000);
        due.is("put(" + key + ", " + value + ", " + life + ")", vault.put(key, value, life), model.put(key, value, life));
    }

    private void delete() {
        int key = key();
        due.is("delete(" + key + ")", vault.delete(key), model.delete(key));
    }

    private void commit() {
        int want = model.commit();
        due.is("commit()", vault.commit(), want);
        fullCommits += want == LayerVault.FULL ? 1 : 0;
    }

    private void merge() {
        int level = near(0, 1);
        int before = model.table(2, -1, 0);
        int want = model.merge(level);
        due.is("merge(" + level + ")", vault.merge(level), want);
        followedMerges += level == 0 && model.table(2, -1, 0) > before ? 1 : 0;
    }

    private void collect() {
        int want = model.collect();
        due.is("collect()", vault.collect(), want);
        fullCollects += want == LayerVault.FULL ? 1 : 0;
    }

    private void release() {
        int snapshot = near(0, 2);
        due.is("release(" + snapshot + ")", vault.release(snapshot), model.release(snapshot));
    }

    private void tick() {
        int n = random.nextInt(20) == 0 ? near(0, 1000) : random.nextInt(8);
        due.is("tick(" + n + ")", vault.tick(n), model.tick(n));
    }

    private void crash() {
        int keep = near(0, 4);
        int want = model.crash(keep);
        due.is("crash(" + keep + ")", vault.crash(keep), want);
        lostRecords += want;
    }

    private void get() {
        int snapshot = near(-1, 2);
        int key = key();
        if (random.nextBoolean()) {
            due.is("get(" + snapshot + ", " + key + ")", vault.get(snapshot, key), model.get(snapshot, key));
        } else {
            due.is("has(" + snapshot + ", " + key + ")", vault.has(snapshot, key), model.has(snapshot, key));
        }
    }

    private void scan() {
        int snapshot = near(-1, 2);
        int from = near(0, keys);
        int k = near(0, keys);
        due.is("scan(" + snapshot + ", " + from + ", " + k + ")",
            vault.scan(snapshot, from, k), model.scan(snapshot, from, k));
    }

    private void compareInsides() {
        due.is("then probes()", vault.probes(), model.probes());
        if (due.anyWrong()) {
            due.end();
        }
        for (int what = -1; what <= 5; what++) {
            due.is("then look(" + what + ")", vault.look(what), model.look(what));
        }
        for (int level = 0; level < 3; level++) {
            int tables = model.table(level, -1, 0);
            for (int k = -1; k <= tables; k++) {
                for (int what = -1; what <= 5; what++) {
                    due.is("then table(" + level + ", " + k + ", " + what + ")",
                        vault.table(level, k, what), model.table(level, k, what));
                }
            }
        }
        int segments = model.segment(-1, 0);
        for (int k = -1; k <= segments; k++) {
            for (int what = -1; what <= 3; what++) {
                due.is("then segment(" + k + ", " + what + ")", vault.segment(k, what), model.segment(k, what));
            }
        }
    }
}
