/** Promise by promise: ordinary inputs, the edges that the document names, and wrong inputs. */
final class PromiseTest extends Bench {
    public static void main(String[] args) {
        PromiseTest test = new PromiseTest();
        test.newObject();
        test.put();
        test.delete();
        test.commit();
        test.commitThatIsFull();
        test.sync();
        test.flush();
        test.flushOfAFullLevel();
        test.merge();
        test.mergeThatGoesOn();
        test.mergeForSnapshots();
        test.mergeOfWhatIsGone();
        test.collect();
        test.collectInOrderOfCells();
        test.collectThatIsFull();
        test.take();
        test.release();
        test.tick();
        test.crash();
        test.crashOfABegunHead();
        test.has();
        test.get();
        test.scan();
        test.probes();
        test.table();
        test.segment();
        test.look();
        test.due.end();
    }

    private void newObject() {
        fresh("promise 1");
        for (int what = 0; what < 5; what++) {
            due.is("look(" + what + ")", x.look(what), 0);
        }
        tablesAre(0, 0, 0);
        due.is("segment(-1, 0)", x.segment(-1, 0), 1);
        for (int what = 0; what < 3; what++) {
            due.is("segment(0, " + what + ")", x.segment(0, what), 0);
        }
        due.is("probes()", x.probes(), 0);
        due.is("scan(-1, 0, 0)", x.scan(-1, 0, 0), NONE);
        due.is("tick(0)", x.tick(0), 0);
    }

    private void put() {
        fresh("promise 2");
        due.is("put(-1, 1, 0)", x.put(-1, 1, 0), BAD);
        due.is("put(32, 1, 0)", x.put(32, 1, 0), BAD);
        due.is("put(LEAST, 1, 0)", x.put(LEAST, 1, 0), BAD);
        due.is("put(MOST, 1, 0)", x.put(MOST, 1, 0), BAD);
        due.is("put(0, 1, -1)", x.put(0, 1, -1), BAD);
        due.is("put(0, 1, 1001)", x.put(0, 1, 1001), BAD);
        due.is("put(0, 1, LEAST)", x.put(0, 1, LEAST), BAD);
        due.is("put(0, 1, MOST)", x.put(0, 1, MOST), BAD);
        due.is("look(3)", x.look(3), 0);
        due.is("put(0, LEAST, 0)", x.put(0, LEAST, 0), 1);
        due.is("put(31, MOST, 1000)", x.put(31, MOST, 1000), 2);
        due.is("put(5, 5, 1)", x.put(5, 5, 1), 3);
        due.is("put(5, 6, 0)", x.put(5, 6, 0), 4);
        due.is("put(6, 0, 0)", x.put(6, 0, 0), 5);
        due.is("has(-1, 0) before the commit", x.has(-1, 0), false);
        due.is("put(7, 7, 2)", x.put(7, 7, 2), 6);
        due.is("put(8, 8, 0)", x.put(8, 8, 0), FULL);
        due.is("put(32, 8, 0) to a full batch", x.put(32, 8, 0), BAD);
        due.is("tick(10)", x.tick(10), 10);
        due.is("commit()", x.commit(), 6);
        due.is("get(-1, 0)", x.get(-1, 0), LEAST);
        due.is("get(-1, 31)", x.get(-1, 31), MOST);
        due.is("get(-1, 5)", x.get(-1, 5), 6);
        due.is("has(-1, 6)", x.has(-1, 6), true);
        due.is("has(-1, 7), its life begins with the commit", x.has(-1, 7), true);
        due.is("has(-1, 8)", x.has(-1, 8), false);
        due.is("tick(2)", x.tick(2), 12);
        due.is("has(-1, 7)", x.has(-1, 7), false);
        due.is("has(-1, 31)", x.has(-1, 31), true);
    }

    private void delete() {
        fresh("promise 3");
        due.is("delete(-1)", x.delete(-1), BAD);
        due.is("delete(32)", x.delete(32), BAD);
        due.is("delete(LEAST)", x.delete(LEAST), BAD);
        due.is("delete(MOST)", x.delete(MOST), BAD);
        write(1, 0, 31, 7);
        due.is("delete(0)", x.delete(0), 1);
        due.is("delete(31)", x.delete(31), 2);
        due.is("delete(9)", x.delete(9), 3);
        due.is("put(9, 1, 0)", x.put(9, 1, 0), 4);
        due.is("put(10, 1, 0)", x.put(10, 1, 0), 5);
        due.is("delete(10)", x.delete(10), 6);
        due.is("delete(7)", x.delete(7), FULL);
        due.is("delete(32) to a full batch", x.delete(32), BAD);
        due.is("has(-1, 0) before the commit", x.has(-1, 0), true);
        due.is("commit()", x.commit(), 6);
        due.is("has(-1, 0)", x.has(-1, 0), false);
        due.is("has(-1, 31)", x.has(-1, 31), false);
        due.is("has(-1, 9)", x.has(-1, 9), true);
        due.is("has(-1, 10)", x.has(-1, 10), false);
        due.is("has(-1, 7)", x.has(-1, 7), true);
        due.is("segment(0, 1), a deletion takes a cell", x.segment(0, 1), 11);
    }

    private void commit() {
        fresh("promise 4");
        due.is("commit()", x.commit(), NONE);
        write(1, 0, 1, 2, 3, 4, 5);
        due.is("look(3)", x.look(3), 0);
        due.is("commit()", x.commit(), NONE);
        write(1, 6, 7);
        due.is("look(0), 8 have room", x.look(0), 8);
        tablesAre(0, 0, 0);
        due.is("look(2)", x.look(2), 2);
        write(2, 0);
        due.is("look(0), after a flush", x.look(0), 1);
        due.is("look(1)", x.look(1), 9);
        due.is("look(2)", x.look(2), 1);
        tablesAre(1, 0, 0);
        due.is("segment(0, 1)", x.segment(0, 1), 12);
        write(2, 1, 2, 3);
        due.is("segment(0, 1), filled to the last cell", x.segment(0, 1), 16);
        due.is("segment(-1, 0)", x.segment(-1, 0), 1);
        write(2, 4);
        due.is("segment(-1, 0)", x.segment(-1, 0), 2);
        due.is("segment(1, 0)", x.segment(1, 0), 1);
        due.is("segment(1, 1)", x.segment(1, 1), 2);
    }

    /** Eight segments of two records each, with two cells to spare; the first has the keys 0 .. 11. */
    private void fillTheLog() {
        fillSegments(8, keys(0, 1, 2, 3, 4, 5), keys(6, 7, 8, 9, 10, 11));
    }

    private void commitThatIsFull() {
        fresh("promise 4, a full log");
        fillTheLog();
        int tables = x.table(0, -1, 0);
        due.is("put(1, 1, 0)", x.put(1, 1, 0), 1);
        due.is("put(2, 2, 0)", x.put(2, 2, 0), 2);
        due.is("commit()", x.commit(), FULL);
        due.is("look(0)", x.look(0), 6);
        due.is("look(1)", x.look(1), 96);
        due.is("look(2)", x.look(2), 1);
        due.is("look(3)", x.look(3), 2);
        due.is("get(-1, 1)", x.get(-1, 1), 101);
        for (int writes = 3; writes <= 6; writes++) {
            due.is("put(3, 3, 0)", x.put(3, 3, 0), writes);
        }
        due.is("commit(), which would flush", x.commit(), FULL);
        due.is("table(0, -1, 0)", x.table(0, -1, 0), tables);
        due.is("look(2)", x.look(2), 1);
        fresh("promise 4, the last two cells");
        fillTheLog();
        write(20, 3);
        due.is("segment(7, 1)", x.segment(7, 1), 16);
        due.is("put(1, 1, 0)", x.put(1, 1, 0), 1);
        due.is("commit()", x.commit(), FULL);
    }

    private void sync() {
        fresh("promise 5");
        due.is("sync()", x.sync(), 0);
        write(1, 1, 2);
        erase(1);
        write(1, 3);
        due.is("sync()", x.sync(), 3);
        due.is("look(2)", x.look(2), 0);
        due.is("sync()", x.sync(), 0);
        write(2, 2);
        due.is("sync()", x.sync(), 1);
        write(3, 2);
        due.is("crash(0)", x.crash(0), 1);
        due.is("get(-1, 2)", x.get(-1, 2), 202);
        due.is("has(-1, 1)", x.has(-1, 1), false);
        due.is("look(0)", x.look(0), 5);
    }

    private void flush() {
        fresh("promise 6");
        due.is("flush()", x.flush(), 0);
        tablesAre(0, 0, 0);
        write(1, 9, 4);
        write(2, 9);
        due.is("flush()", x.flush(), 3);
        due.is("look(0)", x.look(0), 0);
        due.is("look(2)", x.look(2), 0);
        due.is("table(0, 0, 0), one was hidden", x.table(0, 0, 0), 2);
        due.is("table(0, 0, 2)", x.table(0, 0, 2), 4);
        due.is("table(0, 0, 3)", x.table(0, 0, 3), 9);
        due.is("flush()", x.flush(), 0);
        tablesAre(1, 0, 0);
        write(3, 9);
        due.is("take()", x.take(), 0);
        write(4, 9);
        write(5, 9);
        erase(4);
        due.is("flush()", x.flush(), 4);
        due.is("table(0, 0, 0), the newest table is the first one", x.table(0, 0, 0), 3);
        due.is("table(0, 1, 0)", x.table(0, 1, 0), 2);
        due.is("get(0, 9)", x.get(0, 9), 309);
        due.is("get(0, 4)", x.get(0, 4), 104);
        due.is("get(-1, 9)", x.get(-1, 9), 509);
        due.is("has(-1, 4)", x.has(-1, 4), false);
        due.is("crash(0)", x.crash(0), 0);
        due.is("get(-1, 9)", x.get(-1, 9), 509);
    }

    private void flushOfAFullLevel() {
        fresh("promise 6, level 0 is full");
        for (int round = 0; round < 4; round++) {
            write(round, round, 20);
            due.is("flush()", x.flush(), 2);
            tablesAre(round + 1, 0, 0);
        }
        due.is("flush(), of an empty memtable", x.flush(), 0);
        tablesAre(4, 0, 0);
        write(5, 20);
        due.is("flush()", x.flush(), 1);
        tablesAre(1, 1, 0);
        due.is("table(0, 0, 0)", x.table(0, 0, 0), 1);
        due.is("table(1, 0, 0)", x.table(1, 0, 0), 5);
        due.is("table(1, 0, 4)", x.table(1, 0, 4), 8);
        due.is("get(-1, 20)", x.get(-1, 20), 520);
    }

    private void merge() {
        fresh("promise 7");
        due.is("merge(-1)", x.merge(-1), BAD);
        due.is("merge(2)", x.merge(2), BAD);
        due.is("merge(LEAST)", x.merge(LEAST), BAD);
        due.is("merge(MOST)", x.merge(MOST), BAD);
        due.is("merge(0)", x.merge(0), NONE);
        due.is("merge(1)", x.merge(1), NONE);
        write(1, 1, 2, 3);
        due.is("merge(0), all is in the memtable", x.merge(0), NONE);
        x.flush();
        erase(1);
        x.flush();
        write(2, 2);
        x.flush();
        due.is("merge(1)", x.merge(1), NONE);
        due.is("merge(0)", x.merge(0), 2);
        tablesAre(0, 1, 0);
        due.is("table(1, 0, 0), the deletion stays", x.table(1, 0, 0), 3);
        due.is("merge(0)", x.merge(0), NONE);
        due.is("merge(1)", x.merge(1), 1);
        tablesAre(0, 0, 1);
        due.is("table(2, 0, 0)", x.table(2, 0, 0), 2);
        due.is("merge(1)", x.merge(1), NONE);
        due.is("merge(2)", x.merge(2), BAD);
        due.is("get(-1, 2)", x.get(-1, 2), 202);
        due.is("get(-1, 3)", x.get(-1, 3), 103);
        due.is("has(-1, 1)", x.has(-1, 1), false);
    }

    private void mergeThatGoesOn() {
        fresh("promise 7, level 1 with 12 entries");
        write(1, 0, 1, 2, 3, 4, 5);
        write(1, 6, 7, 8, 9, 10);
        erase(11);
        x.flush();
        due.is("merge(0)", x.merge(0), 0);
        tablesAre(0, 2, 0);
        write(2, 3);
        x.flush();
        due.is("merge(0)", x.merge(0), 1);
        tablesAre(0, 2, 0);
        write(2, 12);
        x.flush();
        due.is("merge(0), with 13 it goes on and drops the deletion", x.merge(0), 1);
        tablesAre(0, 0, 2);
        erase(0, 1, 2, 3, 4, 5);
        write(3, 6, 7, 8, 9, 10, 12);
        write(3, 13);
        x.flush();
        due.is("merge(0), it drops all that it hides and every deletion", x.merge(0), 6 + 6 + 6);
        tablesAre(0, 0, 2);
        due.is("table(2, 0, 0)", x.table(2, 0, 0), 6);
        due.is("table(2, 1, 0)", x.table(2, 1, 0), 1);
        due.is("table(2, 1, 2)", x.table(2, 1, 2), 13);
    }

    private void mergeForSnapshots() {
        fresh("promise 7, snapshots");
        write(1, 5);
        due.is("take()", x.take(), 0);
        write(2, 5);
        write(3, 5);
        due.is("take()", x.take(), 1);
        due.is("take()", x.take(), 2);
        erase(5);
        due.is("flush()", x.flush(), 4);
        due.is("table(0, 0, 0)", x.table(0, 0, 0), 3);
        due.is("merge(0)", x.merge(0), 0);
        due.is("release(1), 2 sees the same", x.release(1), true);
        due.is("merge(1), nothing is dropped while lower ones are left", x.merge(1), 0);
        due.is("get(0, 5)", x.get(0, 5), 105);
        due.is("get(2, 5)", x.get(2, 5), 305);
        due.is("has(-1, 5)", x.has(-1, 5), false);
        due.is("release(0)", x.release(0), true);
        write(4, 6);
        x.flush();
        due.is("merge(0)", x.merge(0), 0);
        due.is("merge(1)", x.merge(1), 1);
        due.is("get(2, 5)", x.get(2, 5), 305);
        due.is("release(2)", x.release(2), true);
        write(5, 6);
        x.flush();
        due.is("merge(0)", x.merge(0), 0);
        due.is("merge(1), the deletion too", x.merge(1), 3);
        due.is("table(2, 0, 0)", x.table(2, 0, 0), 1);
    }

    private void mergeOfWhatIsGone() {
        fresh("promise 7, expired values");
        due.is("put(1, 11, 5)", x.put(1, 11, 5), 1);
        due.is("put(2, 12, 6)", x.put(2, 12, 6), 2);
        due.is("commit()", x.commit(), 2);
        due.is("take()", x.take(), 0);
        write(2, 1);
        erase(2);
        x.flush();
        due.is("tick(5)", x.tick(5), 5);
        due.is("merge(0), to level 1 nothing is dropped for being gone", x.merge(0), 0);
        due.is("has(0, 1)", x.has(0, 1), false);
        due.is("has(0, 2)", x.has(0, 2), true);
        due.is("merge(1), the expired one though a snapshot sees it", x.merge(1), 1);
        due.is("table(2, 0, 0)", x.table(2, 0, 0), 3);
        due.is("get(-1, 1)", x.get(-1, 1), 201);
        due.is("tick(1)", x.tick(1), 6);
        write(3, 3);
        x.flush();
        x.merge(0);
        due.is("merge(1), from the lowest one on", x.merge(1), 2);
        due.is("table(2, 0, 0)", x.table(2, 0, 0), 2);
    }

    private void collect() {
        fresh("promise 8");
        write(1, 1);
        due.is("collect()", x.collect(), NONE);
        due.is("look(0), nothing was done", x.look(0), 1);
        due.is("look(2)", x.look(2), 1);
        write(1, 2, 3, 4, 5);
        due.is("put(6, 7, 3)", x.put(6, 7, 3), 1);
        due.is("delete(2)", x.delete(2), 2);
        due.is("commit()", x.commit(), 2);
        write(2, 3);
        write(1, 10, 11, 12, 13);
        due.is("segment(-1, 0)", x.segment(-1, 0), 2);
        due.is("tick(3)", x.tick(3), 3);
        due.is("collect(), the values of 1, 3, 4, 5 and the expired one of 6", x.collect(), 5);
        due.is("look(0)", x.look(0), 0);
        due.is("look(2)", x.look(2), 0);
        due.is("segment(-1, 0)", x.segment(-1, 0), 1);
        due.is("segment(0, 0)", x.segment(0, 0), 1);
        due.is("segment(0, 1)", x.segment(0, 1), 5 + 6);
        due.is("segment(0, 2)", x.segment(0, 2), 4 + 5);
        due.is("has(-1, 6)", x.has(-1, 6), false);
        due.is("get(-1, 4)", x.get(-1, 4), 104);
        due.is("get(-1, 3)", x.get(-1, 3), 203);
        due.is("collect(), the head alone is left", x.collect(), NONE);
        erase(1, 2, 3, 4, 5, 6);
        write(4, 10, 11, 12, 13);
        x.flush();
        x.merge(0);
        due.is("merge(1)", x.merge(1), 6);
        write(5, 3);
        due.is("collect(), nothing is live", x.collect(), 0);
        due.is("segment(0, 0)", x.segment(0, 0), 2);
        due.is("segment(0, 1)", x.segment(0, 1), 7 + 5 + 2);
        due.is("crash(0)", x.crash(0), 0);
        due.is("get(-1, 3)", x.get(-1, 3), 503);
        due.is("get(-1, 11)", x.get(-1, 11), 411);
    }

    /** Records of 6 go by the cells' order, not by the keys': it shows where the values lie afterwards. */
    private void collectInOrderOfCells() {
        fresh("promise 8, the order of cells");
        write(1, 31, 30, 29, 28, 27, 26);
        write(1, 5, 4, 3, 2, 1, 0);
        write(1, 20, 21, 22);
        due.is("collect()", x.collect(), 12);
        due.is("segment(-1, 0)", x.segment(-1, 0), 2);
        due.is("segment(0, 1)", x.segment(0, 1), 4 + 7);
        due.is("segment(1, 1)", x.segment(1, 1), 7);
        erase(31, 30, 29, 28, 27, 26);
        x.flush();
        x.merge(0);
        x.merge(1);
        due.is("segment(0, 2), 20 to 22 are left in the head of then", x.segment(0, 2), 3);
        due.is("segment(1, 2), 0 to 5", x.segment(1, 2), 6);
        due.is("collect()", x.collect(), 3);
        due.is("get(-1, 0)", x.get(-1, 0), 100);
        due.is("get(-1, 21)", x.get(-1, 21), 121);
    }

    private void collectThatIsFull() {
        fresh("promise 8, no room");
        fillTheLog();
        due.is("look(0)", x.look(0), 6);
        due.is("collect(), 12 live values", x.collect(), FULL);
        due.is("look(0), the flush stays", x.look(0), 0);
        due.is("look(2)", x.look(2), 0);
        due.is("segment(-1, 0)", x.segment(-1, 0), 8);
        due.is("segment(0, 0)", x.segment(0, 0), 0);
        due.is("segment(0, 2)", x.segment(0, 2), 12);
        due.is("segment(7, 1)", x.segment(7, 1), 14);
        fresh("promise 8, just room");
        write(1, 12, 13, 14, 15, 16, 17);
        write(1, 11, 12, 13, 14, 15, 16);
        for (int round = 2; round < 16; round++) {
            write(round, 12, 13, 14, 15, 16, 17);
        }
        x.flush();
        x.merge(0);
        due.is("segment(0, 2)", x.segment(0, 2), 1);
        due.is("collect(), a record of 2 cells has room in the head", x.collect(), 1);
        due.is("segment(-1, 0)", x.segment(-1, 0), 7);
        due.is("segment(0, 0)", x.segment(0, 0), 1);
        due.is("segment(6, 1)", x.segment(6, 1), 16);
        due.is("get(-1, 11)", x.get(-1, 11), 111);
    }

    private void take() {
        fresh("promise 9");
        due.is("take(), before anything is written", x.take(), 0);
        write(1, 1);
        due.is("take()", x.take(), 1);
        write(2, 1);
        due.is("take()", x.take(), 2);
        erase(1);
        due.is("take()", x.take(), FULL);
        due.is("has(0, 1)", x.has(0, 1), false);
        due.is("get(1, 1)", x.get(1, 1), 101);
        due.is("get(2, 1)", x.get(2, 1), 201);
        due.is("has(-1, 1)", x.has(-1, 1), false);
        x.release(1);
        x.release(0);
        due.is("take(), the lowest that is free", x.take(), 0);
        due.is("has(0, 1)", x.has(0, 1), false);
        due.is("take()", x.take(), 1);
        due.is("look(4)", x.look(4), 3);
    }

    private void release() {
        fresh("promise 10");
        for (int snapshot : new int[] {-1, 0, 1, 2, 3, LEAST, MOST}) {
            due.is("release(" + snapshot + ")", x.release(snapshot), false);
        }
        write(1, 1);
        x.take();
        x.take();
        due.is("release(-1)", x.release(-1), false);
        due.is("release(2)", x.release(2), false);
        due.is("release(1)", x.release(1), true);
        due.is("release(1)", x.release(1), false);
        due.is("has(1, 1)", x.has(1, 1), false);
        due.is("has(0, 1)", x.has(0, 1), true);
        due.is("release(0)", x.release(0), true);
        due.is("look(4)", x.look(4), 0);
    }

    private void tick() {
        fresh("promise 11");
        due.is("tick(-1)", x.tick(-1), BAD);
        due.is("tick(1001)", x.tick(1001), BAD);
        due.is("tick(LEAST)", x.tick(LEAST), BAD);
        due.is("tick(MOST)", x.tick(MOST), BAD);
        due.is("tick(0)", x.tick(0), 0);
        due.is("tick(1000)", x.tick(1000), 1000);
        due.is("put(1, 7, 2)", x.put(1, 7, 2), 1);
        due.is("commit()", x.commit(), 1);
        due.is("take()", x.take(), 0);
        due.is("tick(1)", x.tick(1), 1001);
        due.is("get(-1, 1)", x.get(-1, 1), 7);
        due.is("tick(1)", x.tick(1), 1002);
        due.is("get(-1, 1)", x.get(-1, 1), 0);
        due.is("has(0, 1), time goes on for snapshots too", x.has(0, 1), false);
        due.is("crash(0)", x.crash(0), 1);
        due.is("tick(0), a crash leaves time alone", x.tick(0), 1002);
    }

    private void crash() {
        fresh("promise 12");
        due.is("crash(0)", x.crash(0), 0);
        write(1, 1, 2);
        write(2, 1);
        erase(2);
        write(3, 1, 3);
        due.is("take()", x.take(), 0);
        due.is("put(9, 9, 0)", x.put(9, 9, 0), 1);
        due.is("get(-1, 3)", x.get(-1, 3), 303);
        due.is("crash(2)", x.crash(2), 2);
        due.is("look(0)", x.look(0), 3);
        due.is("look(1)", x.look(1), 3);
        due.is("look(2)", x.look(2), 0);
        due.is("look(3)", x.look(3), 0);
        due.is("look(4)", x.look(4), 0);
        due.is("release(0)", x.release(0), false);
        due.is("commit()", x.commit(), NONE);
        due.is("get(-1, 1)", x.get(-1, 1), 201);
        due.is("get(-1, 2)", x.get(-1, 2), 102);
        due.is("has(-1, 3)", x.has(-1, 3), false);
        due.is("segment(0, 1)", x.segment(0, 1), 5);
        due.is("crash(0), what stayed is synced", x.crash(0), 0);
        write(4, 1);
        due.is("look(1), serials are given again", x.look(1), 4);
        due.is("crash(MOST)", x.crash(MOST), 0);
        due.is("get(-1, 1)", x.get(-1, 1), 401);
        write(5, 1);
        write(6, 1);
        due.is("crash(LEAST)", x.crash(LEAST), 2);
        due.is("get(-1, 1)", x.get(-1, 1), 401);
        write(7, 1);
        write(8, 1);
        due.is("crash(-1)", x.crash(-1), 2);
        due.is("look(1)", x.look(1), 4);
        x.flush();
        erase(1, 2);
        x.flush();
        x.merge(0);
        due.is("merge(1)", x.merge(1), 2);
        write(9, 1);
        due.is("crash(0)", x.crash(0), 1);
        due.is("look(1), dropped entries were written all the same", x.look(1), 6);
    }

    private void crashOfABegunHead() {
        fresh("promise 12, a begun head");
        write(1, 0, 1, 2, 3, 4, 5);
        x.flush();
        write(2, 0, 1, 2, 3);
        write(3, 0, 1, 2, 4);
        due.is("segment(0, 1)", x.segment(0, 1), 12);
        due.is("segment(1, 1)", x.segment(1, 1), 5);
        due.is("crash(1)", x.crash(1), 1);
        due.is("segment(-1, 0)", x.segment(-1, 0), 1);
        due.is("segment(0, 1)", x.segment(0, 1), 12);
        due.is("segment(0, 2), 6 in the table and 4 in the memtable", x.segment(0, 2), 6 + 4);
        write(4, 0, 1, 2, 3);
        due.is("segment(1, 0), the number is given again", x.segment(1, 0), 1);
        x.flush();
        write(5, 7, 8);
        write(5, 9);
        due.is("segment(1, 1)", x.segment(1, 1), 5 + 3 + 2);
        due.is("crash(1), the head has a record that stays", x.crash(1), 1);
        due.is("segment(-1, 0)", x.segment(-1, 0), 2);
        due.is("segment(1, 1)", x.segment(1, 1), 5 + 3);
    }

    private void has() {
        fresh("promise 13");
        write(1, 0, 31, 8);
        x.flush();
        erase(8);
        x.flush();
        due.is("take()", x.take(), 0);
        due.is("has(-1, 0)", x.has(-1, 0), true);
        due.is("has(0, 31)", x.has(0, 31), true);
        due.is("has(-1, 8)", x.has(-1, 8), false);
        due.is("has(-1, 1)", x.has(-1, 1), false);
        due.is("has(-1, 0)", x.has(-1, 0), true);
        due.is("probes()", x.probes(), 1);
        for (int snapshot : new int[] {-2, 1, 2, 3, LEAST, MOST}) {
            due.is("has(" + snapshot + ", 0)", x.has(snapshot, 0), false);
            due.is("probes(), no get was done", x.probes(), 1);
        }
        for (int key : new int[] {-1, 32, LEAST, MOST}) {
            due.is("has(-1, " + key + ")", x.has(-1, key), false);
            due.is("probes(), no get was done", x.probes(), 1);
        }
        due.is("put(3, 0, 0)", x.put(3, 0, 0), 1);
        x.commit();
        due.is("has(-1, 3), its value is 0", x.has(-1, 3), true);
        due.is("probes()", x.probes(), 0);
        due.is("has(0, 3), written after the snapshot", x.has(0, 3), false);
    }

    private void get() {
        fresh("promise 14");
        write(1, 0, 31, 8);
        x.flush();
        x.merge(0);
        x.merge(1);
        write(2, 8);
        due.is("take()", x.take(), 0);
        x.flush();
        x.merge(0);
        write(3, 8);
        x.flush();
        write(4, 8);
        due.is("take()", x.take(), 1);
        due.is("get(-1, 8)", x.get(-1, 8), 408);
        due.is("get(1, 8)", x.get(1, 8), 408);
        due.is("get(0, 8)", x.get(0, 8), 208);
        due.is("get(-1, 31)", x.get(-1, 31), 131);
        due.is("get(-1, 1)", x.get(-1, 1), 0);
        due.is("get(0, 8)", x.get(0, 8), 208);
        due.is("probes()", x.probes(), 2);
        for (int snapshot : new int[] {-2, 2, 3, LEAST, MOST}) {
            due.is("get(" + snapshot + ", 8)", x.get(snapshot, 8), 0);
            due.is("probes(), no get was done", x.probes(), 2);
        }
        for (int key : new int[] {-1, 32, LEAST, MOST}) {
            due.is("get(-1, " + key + ")", x.get(-1, key), 0);
            due.is("probes(), no get was done", x.probes(), 2);
        }
        erase(8);
        due.is("get(-1, 8)", x.get(-1, 8), 0);
        due.is("get(1, 8)", x.get(1, 8), 408);
    }

    private void scan() {
        fresh("promise 15");
        write(1, 0, 31, 8);
        x.flush();
        due.is("take()", x.take(), 0);
        write(1, 9, 4);
        erase(8);
        due.is("put(5, 5, 1)", x.put(5, 5, 1), 1);
        due.is("commit()", x.commit(), 1);
        x.tick(1);
        due.is("get(-1, 0)", x.get(-1, 0), 100);
        due.is("probes()", x.probes(), 1);
        int[] now = {0, 4, 9, 31, NONE};
        int[] then = {0, 8, 31, NONE};
        for (int k = 0; k < now.length; k++) {
            due.is("scan(-1, 0, " + k + ")", x.scan(-1, 0, k), now[k]);
        }
        for (int k = 0; k < then.length; k++) {
            due.is("scan(0, LEAST, " + k + ")", x.scan(0, LEAST, k), then[k]);
        }
        due.is("scan(-1, 9, 0)", x.scan(-1, 9, 0), 9);
        due.is("scan(-1, 10, 0)", x.scan(-1, 10, 0), 31);
        due.is("scan(-1, 31, 0)", x.scan(-1, 31, 0), 31);
        due.is("scan(-1, 31, 1)", x.scan(-1, 31, 1), NONE);
        due.is("scan(-1, 32, 0)", x.scan(-1, 32, 0), NONE);
        due.is("scan(-1, MOST, 0)", x.scan(-1, MOST, 0), NONE);
        due.is("scan(-1, 0, MOST)", x.scan(-1, 0, MOST), NONE);
        due.is("scan(-1, 0, -1)", x.scan(-1, 0, -1), BAD);
        due.is("scan(-1, 32, LEAST)", x.scan(-1, 32, LEAST), BAD);
        for (int snapshot : new int[] {-2, 1, 2, 3, LEAST, MOST}) {
            due.is("scan(" + snapshot + ", 0, 0)", x.scan(snapshot, 0, 0), BAD);
        }
        due.is("probes(), a scan is no get", x.probes(), 1);
    }

    private void probes() {
        fresh("promise 16");
        due.is("probes()", x.probes(), 0);
        write(1, 6, 10);
        x.flush();
        // The keys 6 and 8 have the same two bits, 9 and 31.
        due.is("has(-1, 8), which the filter can't tell from 6", x.has(-1, 8), false);
        due.is("probes()", x.probes(), 1);
        due.is("probes(), they stay", x.probes(), 1);
        due.is("has(-1, 7), which has other bits", x.has(-1, 7), false);
        due.is("probes()", x.probes(), 0);
        write(2, 8, 9);
        x.flush();
        due.is("get(-1, 6), below the first of the newer one", x.get(-1, 6), 106);
        due.is("probes()", x.probes(), 1);
        due.is("get(-1, 8)", x.get(-1, 8), 208);
        due.is("probes()", x.probes(), 1);
        erase(8);
        due.is("has(-1, 8), found in the memtable", x.has(-1, 8), false);
        due.is("probes()", x.probes(), 0);
        fresh("promise 16, a key in two tables of a level");
        write(1, 0, 1, 2, 3, 4, 5);
        due.is("take()", x.take(), 0);
        write(2, 5);
        x.flush();
        x.merge(0);
        tablesAre(0, 2, 0);
        due.is("get(-1, 5)", x.get(-1, 5), 205);
        due.is("probes()", x.probes(), 1);
        due.is("get(0, 5)", x.get(0, 5), 105);
        due.is("probes()", x.probes(), 2);
        x.merge(1);
        write(3, 5);
        x.flush();
        due.is("get(0, 5), through levels 0 and 2", x.get(0, 5), 105);
        due.is("probes()", x.probes(), 3);
    }

    private void table() {
        fresh("promise 17");
        write(1, 6, 0);
        x.flush();
        due.is("table(0, 0, 1), bit 31 is its sign", x.table(0, 0, 1), (1 << 31) + (1 << 9) + (1 << 1) + (1 << 7));
        write(1, 15);
        write(2, 6);
        x.flush();
        due.is("table(0, -1, 99)", x.table(0, -1, 99), 2);
        due.is("table(0, 0, 0)", x.table(0, 0, 0), 2);
        due.is("table(0, 0, 1), both bits of 15 are the same", x.table(0, 0, 1), (1 << 31) + (1 << 9) + (1 << 12));
        due.is("table(0, 0, 2)", x.table(0, 0, 2), 6);
        due.is("table(0, 0, 3)", x.table(0, 0, 3), 15);
        due.is("table(0, 0, 4)", x.table(0, 0, 4), 4);
        due.is("table(0, 1, 4)", x.table(0, 1, 4), 2);
        for (int what : new int[] {-1, 5, LEAST, MOST}) {
            due.is("table(0, 0, " + what + ")", x.table(0, 0, what), NONE);
        }
        for (int k : new int[] {-2, 2, LEAST, MOST}) {
            due.is("table(0, " + k + ", 0)", x.table(0, k, 0), NONE);
        }
        for (int level : new int[] {-1, 3, LEAST, MOST}) {
            due.is("table(" + level + ", -1, 0)", x.table(level, -1, 0), NONE);
            due.is("table(" + level + ", 0, 0)", x.table(level, 0, 0), NONE);
        }
        write(3, 20, 21, 22, 23);
        x.flush();
        x.merge(0);
        due.is("table(1, -1, 0)", x.table(1, -1, 0), 2);
        due.is("table(1, 0, 0)", x.table(1, 0, 0), 6);
        due.is("table(1, 0, 3)", x.table(1, 0, 3), 22);
        due.is("table(1, 1, 0)", x.table(1, 1, 0), 1);
        due.is("table(1, 1, 2)", x.table(1, 1, 2), 23);
        due.is("table(1, 1, 4)", x.table(1, 1, 4), 8);
        due.is("table(1, 2, 0)", x.table(1, 2, 0), NONE);
        x.merge(1);
        due.is("table(1, 0, 0)", x.table(1, 0, 0), NONE);
        due.is("table(2, 1, 0)", x.table(2, 1, 0), 1);
    }

    private void segment() {
        fresh("promise 18");
        write(1, 1, 2, 3);
        erase(1);
        write(2, 2);
        due.is("segment(-1, 99)", x.segment(-1, 99), 1);
        due.is("segment(0, 0)", x.segment(0, 0), 0);
        due.is("segment(0, 1)", x.segment(0, 1), 8);
        due.is("segment(0, 2), nothing is dropped yet", x.segment(0, 2), 4);
        x.flush();
        due.is("segment(0, 2)", x.segment(0, 2), 2);
        due.is("put(4, 4, 1)", x.put(4, 4, 1), 1);
        due.is("segment(0, 1), the batch is not written yet", x.segment(0, 1), 8);
        due.is("commit()", x.commit(), 1);
        x.tick(1);
        due.is("segment(0, 2), expired but not dropped", x.segment(0, 2), 3);
        for (int what : new int[] {-1, 3, LEAST, MOST}) {
            due.is("segment(0, " + what + ")", x.segment(0, what), NONE);
        }
        for (int k : new int[] {-2, 1, 8, LEAST, MOST}) {
            due.is("segment(" + k + ", 0)", x.segment(k, 0), NONE);
        }
        write(3, 10, 11, 12, 13, 14, 15);
        due.is("segment(0, 1)", x.segment(0, 1), 10);
        due.is("segment(1, 1)", x.segment(1, 1), 7);
        due.is("segment(1, 2)", x.segment(1, 2), 6);
        due.is("segment(1, 0)", x.segment(1, 0), 1);
        due.is("segment(2, 0)", x.segment(2, 0), NONE);
    }

    private void look() {
        fresh("promise 19");
        write(1, 1, 2, 3);
        write(1, 4);
        due.is("take()", x.take(), 0);
        due.is("take()", x.take(), 1);
        due.is("put(1, 1, 0)", x.put(1, 1, 0), 1);
        due.is("delete(1)", x.delete(1), 2);
        due.is("put(2, 1, 0)", x.put(2, 1, 0), 3);
        due.is("look(0)", x.look(0), 4);
        due.is("look(1)", x.look(1), 4);
        due.is("look(2)", x.look(2), 2);
        due.is("look(3)", x.look(3), 3);
        due.is("look(4)", x.look(4), 2);
        x.flush();
        due.is("look(0)", x.look(0), 0);
        due.is("look(1)", x.look(1), 4);
        due.is("look(2)", x.look(2), 0);
        for (int what : new int[] {-1, 5, LEAST, MOST}) {
            due.is("look(" + what + ")", x.look(what), NONE);
        }
    }
}
