import java.util.Random;

/** Any numbers in any state, far beyond the 512 calls of the document: every call ends and none throws. */
final class WildTest {
    private static final int OBJECTS = 60;
    private static final int CALLS = 20000;
    private static final int[] EDGES = {Integer.MIN_VALUE, -3, -2, -1, 0, 1, 2, 3, 31, 32, 1000, Integer.MAX_VALUE};

    public static void main(String[] args) {
        Due due = new Due();
        for (int object = 0; object < OBJECTS; object++) {
            due.about("object " + object);
            due.is("calls that threw", callWildly(new Random(object), object % 2 == 0), 0);
        }
        due.end();
    }

    private static int callWildly(Random random, boolean mostlyWriting) {
        LayerVault vault = new LayerVault();
        for (int i = 0; i < CALLS; i++) {
            try {
                if (mostlyWriting && random.nextInt(3) > 0) {
                    writeOnce(vault, random);
                } else {
                    callOnce(vault, random);
                }
            } catch (RuntimeException thrown) {
                System.out.println("call " + i + " threw " + thrown);
                return 1;
            }
        }
        return 0;
    }

    private static void writeOnce(LayerVault vault, Random random) {
        vault.put(random.nextInt(32), random.nextInt(), random.nextInt(3));
        vault.commit();
    }

    private static void callOnce(LayerVault vault, Random random) {
        int a = number(random);
        int b = number(random);
        int c = number(random);
        switch (random.nextInt(18)) {
            case 0 -> vault.put(a, b, c);
            case 1 -> vault.delete(a);
            case 2 -> vault.commit();
            case 3 -> vault.sync();
            case 4 -> vault.flush();
            case 5 -> vault.merge(a);
            case 6 -> vault.collect();
            case 7 -> vault.take();
            case 8 -> vault.release(a);
            case 9 -> vault.tick(a);
            case 10 -> vault.crash(a);
            case 11 -> vault.has(a, b);
            case 12 -> vault.get(a, b);
            case 13 -> vault.scan(a, b, c);
            case 14 -> vault.probes();
            case 15 -> vault.table(a, b, c);
            case 16 -> vault.segment(a, b);
            default -> vault.look(a);
        }
    }

    private static int number(Random random) {
        int kind = random.nextInt(8);
        return kind == 0 ? random.nextInt() : kind < 3 ? EDGES[random.nextInt(EDGES.length)] : random.nextInt(32);
    }
}
