import java.util.Arrays;

/** Sentence by sentence, the edges of a new object and of writing: promises 1 to 5. */
final class WriteEdgeTest extends Bench {
    public static void main(String[] args) {
        new WriteEdgeTest().runSentenceTests();
    }

    @Says(promise = 1, words = "Nothing written; time 0.")
    void nothingIsThereAtFirst() {
        allAre(0, "look(0)", "look(1)", "look(2)", "look(3)", "look(4)", "probes()", "tick(0)");
        tablesAre(0, 0, 0);
        is("scan(-1, 0, 0)", NONE);
        for (int key = 0; key < 32; key++) {
            is("has(-1, " + key + ")", false);
            is("get(-1, " + key + ")", 0);
        }
        allAre(0, "sync()", "flush()", "crash(0)", "release(0)", "probes()");
        allAre(NONE, "commit()", "collect()", "merge(0)", "merge(1)");
    }

    @Says(promise = 1, words = "TIME is 0 at first.")
    void timeBeginsAt0() {
        writeFor(1, 7, 1);
        is("tick(0)", 0);
        is("has(-1, 1)", true);
        is("tick(1)", 1);
        is("has(-1, 1)", false);
    }

    @Says(promise = 1, words = "(at first 0 alone is there, empty)")
    void segment0IsThereAtFirst() {
        is("segment(-1, 0)", 1);
        allAre(0, "segment(0, 0)", "segment(0, 1)", "segment(0, 2)");
        allAre(NONE, "segment(1, 0)", "segment(1, 1)", "segment(1, 2)");
    }

    @Says(promise = 1, words = "An object is used for at most 512 calls after it has been made")
    void timeGoesOnForAll512Calls() {
        for (int call = 1; call < 508; call++) {
            is("tick(1000)", 1000 * call);
        }
        writeFor(1, 7, 1000);
        is("tick(999)", 507999);
        is("has(-1, 1)", true);
        is("tick(1000)", 508999);
        due.is("calls made", callsMade(), 512);
    }

    /** From the 17th record on every second one needs the tail's room, where nothing is live any more. */
    @Says(promise = 1, words = "An object is used for at most 512 calls after it has been made")
    void the512CallsMayAllBeWrites() {
        for (int record = 1; record <= 68; record++) {
            if (record > 16 && record % 2 == 1) {
                is("collect()", 0);
            }
            write(record, 0, 1, 2, 3, 4, 5);
        }
        is("look(1)", 68 * 6);
        is("segment(-1, 0)", 8);
        is("segment(0, 0)", 26);
        is("segment(7, 0)", 33);
        is("segment(7, 1)", 14);
        is("get(-1, 0)", 6800);
        is("get(-1, 5)", 6805);
        is("scan(-1, 0, 5)", 5);
        is("scan(-1, 0, 6)", NONE);
        is("look(2)", 1);
        due.is("calls made", callsMade(), 512);
    }

    @Says(promise = 2, words = "BAD: key isn't 0 .. 31")
    void putTakesTheKeys0To31() {
        is("put(0, 10, 0)", 1);
        is("put(31, 11, 0)", 2);
        allAre(BAD, "put(-1, 12, 0)", "put(32, 13, 0)", "put(LEAST, 14, 0)", "put(MOST, 15, 0)");
        is("look(3)", 2);
        is("commit()", 2);
        is("get(-1, 0)", 10);
        is("get(-1, 31)", 11);
        is("scan(-1, 0, 2)", NONE);
    }

    @Says(promise = 2, words = "or life isn't 0 .. 1000")
    void putTakesLives0To1000() {
        is("put(1, 10, 0)", 1);
        is("put(2, 11, 1000)", 2);
        allAre(BAD, "put(3, 12, -1)", "put(4, 13, 1001)", "put(5, 14, LEAST)", "put(6, 15, MOST)");
        is("look(3)", 2);
        is("commit()", 2);
        is("scan(-1, 0, 1)", 2);
        is("scan(-1, 0, 2)", NONE);
        is("tick(1000)", 1000);
        is("has(-1, 1)", true);
        is("has(-1, 2)", false);
    }

    @Says(promise = 2, words = "BAD: key isn't 0 .. 31 or life isn't 0 .. 1000")
    void aPutThatIsBadChangesNothing() {
        changesNothing(this::makeBusy, () ->
            allAre(BAD, "put(-1, 9, 0)", "put(32, 9, 0)", "put(3, 9, -1)", "put(3, 9, 1001)", "put(-1, 9, 1001)"));
    }

    @Says(promise = 2, words = "FULL: it has 6.")
    void putTakesTheSixthWriteAndNoSeventh() {
        for (int key = 1; key <= 6; key++) {
            is("put(" + key + ", 9, 0)", key);
        }
        allAre(FULL, "put(7, 9, 0)", "put(1, 8, 0)");
        is("look(3)", 6);
        is("commit()", 6);
        is("get(-1, 1)", 9);
        is("has(-1, 7)", false);
        is("put(7, 9, 0)", 1);
    }

    @Says(promise = 2, words = "FULL: it has 6.")
    void aPutThatIsFullChangesNothing() {
        changesNothing(this::makeBusyWithAFullBatch, () -> allAre(FULL, "put(3, 9, 0)", "put(2, 9, 5)"));
    }

    private void makeBusyWithAFullBatch() {
        makeBusy();
        is("put(10, 1, 0)", 4);
        is("put(11, 1, 2)", 5);
        is("delete(0)", 6);
    }

    @Says(promise = 2, words = "How many writes it has then.")
    void putCountsEveryWriteOfTheBatch() {
        is("put(4, 1, 0)", 1);
        is("put(4, 2, 0)", 2);
        is("delete(4)", 3);
        is("put(4, 1, 0)", 4);
        is("commit()", 4);
        is("put(4, 5, 0)", 1);
    }

    @Says(promise = 2, words = "Adds to the batch that is made ready: the key gets a value")
    void aPutIsReadyAndNotYetWritten() {
        write(1, 3);
        is("put(3, 7, 0)", 1);
        is("look(3)", 1);
        is("get(-1, 3)", 103);
        is("commit()", 1);
        is("get(-1, 3)", 7);
    }

    @Says(promise = 2, words = "with a life (0: it never expires)")
    void aLifeOf0NeverEnds() {
        writeFor(1, 7, 0);
        for (int call = 1; call <= 500; call++) {
            is("tick(1000)", 1000 * call);
        }
        is("has(-1, 1)", true);
        is("get(-1, 1)", 7);
    }

    @Says(promise = 2, words = "values any ints")
    void anyIntIsAValue() {
        is("put(0, LEAST, 0)", 1);
        is("put(1, MOST, 0)", 2);
        is("put(2, 0, 0)", 3);
        is("put(3, -1, 0)", 4);
        is("put(4, -2, 0)", 5);
        is("put(5, -3, 0)", 6);
        is("commit()", 6);
        int[] values = {LEAST, MOST, 0, BAD, NONE, FULL};
        for (int key = 0; key < 6; key++) {
            is("has(-1, " + key + ")", true);
            is("get(-1, " + key + ")", values[key]);
        }
    }

    @Says(promise = 3, words = "Adds to the batch that is made ready: the key is deleted.")
    void aDeletionIsReadyAndNotYetWritten() {
        write(1, 3);
        is("delete(3)", 1);
        is("look(3)", 1);
        is("get(-1, 3)", 103);
        is("commit()", 1);
        is("has(-1, 3)", false);
        is("get(-1, 3)", 0);
        is("look(0)", 2);
    }

    @Says(promise = 3, words = "BAD: key isn't 0 .. 31")
    void deleteTakesTheKeys0To31() {
        write(1, 0, 31, 5);
        is("delete(0)", 1);
        is("delete(31)", 2);
        allAre(BAD, "delete(-1)", "delete(32)", "delete(LEAST)", "delete(MOST)");
        is("look(3)", 2);
        is("commit()", 2);
        is("scan(-1, 0, 0)", 5);
        is("scan(-1, 0, 1)", NONE);
    }

    @Says(promise = 3, words = "BAD: key isn't 0 .. 31")
    void aDeleteThatIsBadChangesNothing() {
        changesNothing(this::makeBusy, () -> allAre(BAD, "delete(-1)", "delete(32)"));
    }

    @Says(promise = 3, words = "FULL: it has 6.")
    void deleteTakesTheSixthWriteAndNoSeventh() {
        write(1, 6, 7);
        for (int key = 1; key <= 6; key++) {
            is("delete(" + key + ")", key);
        }
        is("delete(7)", FULL);
        is("look(3)", 6);
        is("commit()", 6);
        is("has(-1, 6)", false);
        is("has(-1, 7)", true);
        is("delete(7)", 1);
    }

    @Says(promise = 3, words = "FULL: it has 6.")
    void aDeleteThatIsFullChangesNothing() {
        changesNothing(this::makeBusyWithAFullBatch, () -> allAre(FULL, "delete(5)", "delete(10)"));
    }

    @Says(promise = 3, words = "How many writes it has then.")
    void deleteCountsThoughTheKeyIsAbsent() {
        is("delete(4)", 1);
        is("delete(4)", 2);
        is("put(4, 1, 0)", 3);
        is("delete(4)", 4);
        is("commit()", 4);
        is("look(0)", 4);
        is("look(1)", 4);
        is("delete(4)", 1);
    }

    @Says(promise = 4, words = "how many writes it had; it is empty then")
    void commitEmptiesTheBatch() {
        writeFor(1, 1, 0);
        is("look(3)", 0);
        write(2, 1, 2, 3, 4, 5, 6);
        is("look(3)", 0);
        is("commit()", NONE);
        is("put(7, 1, 0)", 1);
    }

    @Says(promise = 4, words = "NONE: it is empty")
    void anEmptyBatchIsNotCommitted() {
        is("commit()", NONE);
        allAre(0, "look(0)", "look(1)", "look(2)", "segment(0, 1)");
        // Not FULL either, though there is no cell left for a record of any length.
        fillSegments(8);
        write(50, 20);
        is("segment(7, 1)", 16);
        is("commit()", NONE);
    }

    /** The memtable is full, the head has one cell left and level 0 four tables: a record would change each. */
    @Says(promise = 4, words = "NONE: it is empty")
    void anEmptyBatchChangesNothing() {
        changesNothing(this::makeAllButOverflow, () -> is("commit()", NONE));
    }

    private void makeAllButOverflow() {
        for (int round = 1; round <= 4; round++) {
            write(round, round);
            is("flush()", 1);
        }
        write(5, 1, 2);
        write(5, 3);
        write(6, 1, 2, 3, 4, 5);
        is("segment(0, 1)", 8 + 3 + 2);
        is("look(0)", 8);
    }

    @Says(promise = 4, words = "A BATCH of at most 6 writes is made ready, then committed as a whole.")
    void nothingOfABatchIsThereBeforeItsCommit() {
        write(1, 1);
        is("delete(1)", 1);
        is("put(2, 5, 0)", 2);
        is("has(-1, 1)", true);
        is("has(-1, 2)", false);
        is("look(0)", 1);
        is("look(1)", 1);
        is("segment(0, 1)", 2);
        is("commit()", 2);
        is("has(-1, 1)", false);
        is("has(-1, 2)", true);
        is("look(2)", 2);
        is("crash(1)", 1);
        is("has(-1, 1)", true);
        is("has(-1, 2)", false);
    }

    @Says(promise = 4, words = "An ENTRY is a key with a SERIAL (1, 2, .. in the order of writing)")
    void serialsBeginWith1() {
        is("look(1)", 0);
        write(1, 9);
        is("look(1)", 1);
        write(1, 8, 9, 7, 9, 6, 5);
        is("look(1)", 7);
        is("flush()", 7);
        is("table(0, 0, 4)", 7);
        is("look(1)", 7);
    }

    @Says(promise = 4, words = "with serials in their order")
    void theLaterWriteOfABatchDecides() {
        is("put(1, 10, 0)", 1);
        is("put(1, 11, 0)", 2);
        is("put(2, 12, 0)", 3);
        is("delete(2)", 4);
        is("delete(3)", 5);
        is("put(3, 13, 0)", 6);
        is("commit()", 6);
        is("get(-1, 1)", 11);
        is("has(-1, 2)", false);
        is("get(-1, 3)", 13);
        is("flush()", 6);
        is("get(-1, 1)", 11);
        is("has(-1, 2)", false);
        is("get(-1, 3)", 13);
    }

    @Says(promise = 4, words = "a segment has room for 16 cells")
    void the16thCellIsTakenAndNo17th() {
        write(1, 1, 2, 3, 4, 5, 6);
        write(2, 1, 2, 3, 4, 5, 6);
        write(3, 1);
        is("segment(0, 1)", 16);
        is("segment(-1, 0)", 1);
        write(4, 1);
        is("segment(-1, 0)", 2);
        is("segment(0, 1)", 16);
        is("segment(1, 1)", 2);
    }

    @Says(promise = 4, words = "A RECORD of n values takes 1 + n cells of one segment (a deletion counts as a value "
        + "here).")
    void aRecordTakesOneCellMoreThanItHasValues() {
        int[] of = {1, 2, 3, 4, 5, 6};
        for (int n = 1; n <= 6; n++) {
            renew();
            write(1, Arrays.copyOf(of, n));
            is("segment(0, 1)", 1 + n);
            erase(Arrays.copyOf(of, n));
            is("segment(0, 1)", 2 * (1 + n));
            is("segment(0, 2)", n);
        }
    }

    @Says(promise = 4, words = "takes 1 + n cells of one segment")
    void aRecordIsNotCutInTwo() {
        write(1, 1, 2, 3, 4, 5, 6);
        write(1, 7, 8, 9);
        is("segment(0, 1)", 11);
        write(1, 10, 11, 12, 13, 14);
        is("segment(0, 1)", 11);
        is("segment(1, 1)", 6);
        is("segment(0, 2)", 9);
        is("segment(1, 2)", 5);
    }

    @Says(promise = 4, words = "A record goes into the head if that has room")
    void aRecordThatJustFitsGoesIntoTheHead() {
        write(1, 1, 2, 3, 4, 5, 6);
        write(1, 7);
        is("segment(0, 1)", 9);
        write(1, 1, 2, 3, 4, 5, 6);
        is("segment(0, 1)", 16);
        is("segment(-1, 0)", 1);
    }

    @Says(promise = 4, words = "else a new head is begun, with the next number, and it goes there")
    void aRecordOneCellTooLongBeginsAHead() {
        write(1, 1, 2, 3, 4, 5, 6);
        write(1, 7, 8);
        is("segment(0, 1)", 10);
        write(1, 1, 2, 3, 4, 5, 6);
        is("segment(-1, 0)", 2);
        is("segment(1, 0)", 1);
        is("segment(1, 1)", 7);
        // The six cells left in segment 0 stay free, though a record would fit there.
        write(2, 1);
        is("segment(0, 1)", 10);
        is("segment(1, 1)", 9);
    }

    @Says(promise = 4, words = "Records of batches come in the order in which they are committed.")
    void whatWasCommittedFirstStaysFirst() {
        write(1, 9);
        write(2, 8, 9);
        write(3, 7, 8, 9);
        is("crash(2)", 1);
        is("look(1)", 3);
        is("segment(0, 1)", 2 + 3);
        is("get(-1, 9)", 209);
        is("get(-1, 8)", 208);
        is("has(-1, 7)", false);
    }

    @Says(promise = 4, words = "THE MEMTABLE has at most 8 entries.")
    void theMemtableTakesTheEighthEntryAndNoNinth() {
        for (int n = 1; n <= 8; n++) {
            write(n, 5);
            is("look(0)", n);
            tablesAre(0, 0, 0);
        }
        write(9, 5);
        is("look(0)", 1);
        tablesAre(1, 0, 0);
    }

    @Says(promise = 4, words = "if memtable and batch together have more than 8 entries, the store flushes")
    void eightTogetherAreNotFlushed() {
        write(1, 1, 2);
        write(2, 1, 2, 3, 4, 5, 6);
        is("look(0)", 8);
        is("look(2)", 2);
        tablesAre(0, 0, 0);
    }

    @Says(promise = 4, words = "if memtable and batch together have more than 8 entries, the store flushes")
    void nineTogetherAreFlushed() {
        write(1, 1, 2, 3);
        write(2, 1, 2, 3, 4, 5, 6);
        is("look(0)", 6);
        tablesAre(1, 0, 0);
        is("table(0, 0, 0)", 3);
        is("table(0, 0, 4)", 3);
    }

    @Says(promise = 4, words = "then the record is written, and the batch's writes become entries of the memtable")
    void theFlushComesBeforeTheRecord() {
        write(1, 1, 2, 3);
        write(2, 1, 2, 3, 4, 5, 6);
        is("look(2)", 1);
        is("crash(0)", 1);
        is("look(0)", 0);
        is("look(1)", 3);
        is("get(-1, 1)", 101);
        is("has(-1, 4)", false);
        is("segment(0, 1)", 4);
    }

    @Says(promise = 4, words = "a value with a life of n > 0 expires at time + n")
    void aLifeBeginsWithTheCommit() {
        is("put(1, 10, 1)", 1);
        is("put(2, 20, 1000)", 2);
        is("tick(10)", 10);
        is("commit()", 2);
        is("has(-1, 1)", true);
        is("tick(1)", 11);
        is("has(-1, 1)", false);
        is("tick(998)", 1009);
        is("has(-1, 2)", true);
        is("tick(1)", 1010);
        is("has(-1, 2)", false);
    }

    @Says(promise = 4, words = "if a record for the batch needs a new head and there are 8 segments: FULL")
    void theEighthSegmentIsBegunAndNoNinth() {
        fillSegments(7);
        write(50, 1, 2);
        is("segment(-1, 0)", 8);
        is("segment(7, 1)", 3);
        write(51, 1, 2, 3, 4, 5, 6);
        write(52, 1, 2, 3, 4);
        is("segment(7, 1)", 15);
        is("put(1, 1, 0)", 1);
        is("commit()", FULL);
        is("segment(-1, 0)", 8);
        is("segment(7, 1)", 15);
    }

    @Says(promise = 4, words = "if a record for the batch needs a new head and there are 8 segments: FULL")
    void theLastCellsOfTheEighthSegmentAreTaken() {
        fillSegments(8);
        is("put(1, 1, 0)", 1);
        is("put(2, 2, 0)", 2);
        is("commit()", FULL);
        is("crash(1)", 0);
        writeFor(3, 3, 0);
        is("segment(7, 1)", 16);
        is("get(-1, 3)", 3);
    }

    /** Six writes beside the six of the memtable: the flush for them must not come about either. */
    @Says(promise = 4, words = "FULL (nothing changes).")
    void aCommitThatIsFullChangesNothing() {
        changesNothing(this::makeAFullBatchForAFullLog, () -> allAre(FULL, "commit()", "commit()"));
    }

    @Says(promise = 4, words = "FULL (nothing changes).")
    void theBatchOfACommitThatIsFullIsKept() {
        makeAFullBatchForAFullLog();
        is("commit()", FULL);
        is("look(3)", 6);
        is("look(0)", 6);
        is("look(2)", 1);
        is("put(7, 7, 0)", FULL);
        is("collect()", 0);
        is("commit()", 6);
        is("look(1)", 16 * 6 + 6);
        is("get(-1, 1)", 10);
        is("get(-1, 6)", 60);
    }

    private void makeAFullBatchForAFullLog() {
        fillSegments(8);
        for (int key = 1; key <= 6; key++) {
            is("put(" + key + ", " + 10 * key + ", 0)", key);
        }
    }

    @Says(promise = 5, words = "All records are synced: how many weren't.")
    void syncCountsWhatWasNotSynced() {
        is("sync()", 0);
        write(1, 1, 2, 3);
        is("sync()", 1);
        is("sync()", 0);
        erase(1);
        write(2, 1);
        is("sync()", 2);
        is("look(2)", 0);
        is("crash(0)", 0);
        is("look(1)", 5);
    }

    @Says(promise = 5, words = "All records are synced: how many weren't.")
    void eightRecordsAreTheMostThatAreNotSynced() {
        for (int n = 1; n <= 8; n++) {
            write(n, n);
            is("look(2)", n);
        }
        is("sync()", 8);
        is("look(2)", 0);
        is("look(0)", 8);
        write(9, 9);
        is("sync()", 1);
    }

    @Says(promise = 5, words = "All records are synced: how many weren't.")
    void whatWasFlushedOrStayedIsSynced() {
        write(1, 1);
        is("flush()", 1);
        is("sync()", 0);
        write(2, 1);
        write(2, 2);
        is("crash(1)", 1);
        is("sync()", 0);
        is("put(3, 3, 0)", 1);
        is("sync()", 0);
        is("look(3)", 1);
    }

    @Says(promise = 5, words = "SYNCED are all records up to some one of them.")
    void recordsAfterASyncAreNotSynced() {
        write(1, 1);
        write(1, 2);
        is("sync()", 2);
        write(2, 1);
        write(2, 2);
        is("look(2)", 2);
        is("crash(0)", 2);
        is("get(-1, 1)", 101);
        is("get(-1, 2)", 102);
        is("look(0)", 2);
    }
}
