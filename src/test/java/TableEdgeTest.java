/** Sentence by sentence, the edges of flushing, merging and the tables: promises 6, 7 and 17. */
final class TableEdgeTest extends Bench {
    // The bits (5 k + 1) % 32 and (11 k + 7) % 32 of the keys 0 .. 31, worked out by hand.
    private static final int[] ONE_BIT = {
        1, 6, 11, 16, 21, 26, 31, 4, 9, 14, 19, 24, 29, 2, 7, 12,
        17, 22, 27, 0, 5, 10, 15, 20, 25, 30, 3, 8, 13, 18, 23, 28,
    };
    private static final int[] OTHER_BIT = {
        7, 18, 29, 8, 19, 30, 9, 20, 31, 10, 21, 0, 11, 22, 1, 12,
        23, 2, 13, 24, 3, 14, 25, 4, 15, 26, 5, 16, 27, 6, 17, 28,
    };

    public static void main(String[] args) {
        new TableEdgeTest().runSentenceTests();
    }

    @Says(promise = 6, words = "Flushes: how many entries the memtable had.")
    void flushCountsFrom0To8() {
        is("flush()", 0);
        write(1, 9);
        is("flush()", 1);
        write(1, 1, 2, 3, 4, 5, 6);
        write(1, 7, 8);
        is("flush()", 8);
        entriesAre(0, 8, 1);
        is("look(0)", 0);
        is("flush()", 0);
    }

    @Says(promise = 6, words = "Flushes: how many entries the memtable had.")
    void flushCountsWhatItDropsToo() {
        write(1, 5, 5, 5, 5, 5, 5);
        write(2, 5, 5);
        is("flush()", 8);
        entriesAre(0, 1);
        is("table(0, 0, 4)", 8);
    }

    @Says(promise = 6, words = "TO FLUSH, if the memtable isn't empty")
    void anEmptyMemtableIsNotFlushed() {
        is("flush()", 0);
        tablesAre(0, 0, 0);
        write(1, 1);
        is("flush()", 1);
        is("flush()", 0);
        tablesAre(1, 0, 0);
    }

    @Says(promise = 6, words = "TO FLUSH, if the memtable isn't empty")
    void aFlushOfNothingChangesNothing() {
        changesNothing(() -> {
            makeTables(4);
            is("put(1, 1, 0)", 1);
            is("take()", 0);
        }, () -> allAre(0, "flush()", "flush()"));
    }

    /** So many tables of level 0, each with an entry of the key 20 and one of its own: 0, 1, 2 .. */
    private void makeTables(int count) {
        for (int round = 0; round < count; round++) {
            write(round, round, 20);
            is("flush()", 2);
            tablesAre(round + 1, 0, 0);
        }
    }

    @Says(promise = 6, words = "if level 0 has 4 tables, level 0 is merged")
    void theFourthTableIsAddedAndBeforeTheFifthIsMerged() {
        makeTables(3);
        write(3, 3, 20);
        is("flush()", 2);
        entriesAre(0, 2, 2, 2, 2);
        entriesAre(1);
        write(4, 4, 20);
        is("flush()", 2);
        entriesAre(0, 2);
        entriesAre(1, 5);
        entriesAre(2);
    }

    /** A merge after the flush would drop the entry of level 1 that the new one hides. */
    @Says(promise = 6, words = "level 0 is merged; then the entries of the memtable are sifted for level 0")
    void theNewTableIsNotMerged() {
        makeTables(4);
        write(4, 20);
        is("flush()", 1);
        entriesAre(0, 1);
        is("table(0, 0, 4)", 9);
        entriesAre(1, 5);
        is("table(1, 0, 4)", 8);
        is("get(-1, 20)", 420);
    }

    @Says(promise = 6, words = "the entries of the memtable are sifted for level 0")
    void whatIsGoneStaysOnLevel0() {
        erase(1);
        writeFor(2, 2, 1);
        is("tick(1)", 1);
        is("flush()", 2);
        entriesAre(0, 2);
        write(3, 3);
        erase(3);
        is("flush()", 2);
        entriesAre(0, 1, 2);
        is("table(0, 0, 4)", 4);
    }

    @Says(promise = 6, words = "what is left is the newest table of level 0, the memtable is empty; all records are "
        + "synced")
    void afterAFlushAllRecordsAreSynced() {
        for (int key = 1; key <= 8; key++) {
            write(1, key);
        }
        is("look(2)", 8);
        is("flush()", 8);
        is("look(0)", 0);
        is("look(2)", 0);
        is("crash(0)", 0);
        is("get(-1, 1)", 101);
        is("get(-1, 8)", 108);
        is("look(1)", 8);
    }

    @Says(promise = 7, words = "BAD: level isn't 0 or 1")
    void onlyLevels0And1AreMerged() {
        allAre(BAD, "merge(-1)", "merge(2)", "merge(LEAST)", "merge(MOST)");
        write(1, 1);
        is("flush()", 1);
        is("merge(0)", 0);
        is("merge(1)", 0);
        allAre(BAD, "merge(-1)", "merge(2)", "merge(3)");
        entriesAre(2, 1);
    }

    @Says(promise = 7, words = "BAD: level isn't 0 or 1")
    void aMergeThatIsBadChangesNothing() {
        changesNothing(this::makeBusy, () -> allAre(BAD, "merge(-1)", "merge(2)", "merge(3)"));
    }

    @Says(promise = 7, words = "NONE: it has no entries")
    void aLevelWithoutEntriesIsNotMerged() {
        allAre(NONE, "merge(0)", "merge(1)");
        write(1, 1);
        allAre(NONE, "merge(0)", "merge(1)");
        is("look(0)", 1);
        is("look(2)", 1);
        is("flush()", 1);
        is("merge(1)", NONE);
        is("merge(0)", 0);
        is("merge(0)", NONE);
        is("merge(1)", 0);
        allAre(NONE, "merge(0)", "merge(1)");
    }

    /** The deletion on level 1 and the value under it on level 2 would be dropped if they were merged after all. */
    @Says(promise = 7, words = "NONE: it has no entries")
    void aMergeOfAnEmptyLevel0ChangesNothing() {
        changesNothing(() -> {
            put2OnLevel2();
            erase(2);
            is("flush()", 1);
            is("merge(0)", 0);
            write(3, 3);
        }, () -> is("merge(0)", NONE));
    }

    @Says(promise = 7, words = "NONE: it has no entries")
    void aMergeOfAnEmptyLevel1ChangesNothing() {
        changesNothing(() -> {
            put2OnLevel2();
            erase(2);
            is("flush()", 1);
            write(3, 3);
        }, () -> is("merge(1)", NONE));
    }

    private void put2OnLevel2() {
        write(1, 2);
        is("flush()", 1);
        allAre(0, "merge(0)", "merge(1)");
        entriesAre(2, 1);
    }

    @Says(promise = 7, words = "Merges a level: how many entries were dropped")
    void mergeCountsWhatItDrops() {
        for (int round = 1; round <= 4; round++) {
            write(round, 1, 2, 3);
            is("flush()", 3);
        }
        is("merge(0)", 9);
        entriesAre(1, 3);
        is("merge(1)", 0);
        entriesAre(2, 3);
        erase(1, 2);
        is("flush()", 2);
        is("merge(0)", 0);
        is("merge(1)", 4);
        entriesAre(2, 1);
    }

    @Says(promise = 7, words = "(by the merge of level 1 that follows from it too)")
    void mergeCountsWhatTheNextOneDrops() {
        makeTwelveOnLevel1();
        is("merge(1)", 0);
        entriesAre(2, 6, 6);
        erase(0, 1, 2, 3, 4, 5);
        erase(6, 7);
        is("flush()", 8);
        write(5, 0, 20, 21, 22, 23, 24);
        is("flush()", 6);
        // One deletion is hidden on level 1; the other seven and the eight values under them go on level 2.
        is("merge(0)", 1 + 7 + 8);
        entriesAre(1);
        entriesAre(2, 6, 4);
    }

    private void makeTwelveOnLevel1() {
        write(1, 0, 1, 2, 3, 4, 5);
        is("flush()", 6);
        write(1, 6, 7, 8, 9, 10, 11);
        is("flush()", 6);
        is("merge(0)", 0);
        entriesAre(1, 6, 6);
    }

    @Says(promise = 7, words = "what is left is level 1 (2), and level 0 (1) has none")
    void theMergedLevelHasNoneThen() {
        write(1, 1, 3);
        is("flush()", 2);
        write(1, 2, 4);
        is("flush()", 2);
        is("merge(0)", 0);
        entriesAre(0);
        entriesAre(1, 4);
        entriesAre(2);
        write(2, 0, 31);
        is("flush()", 2);
        is("merge(1)", 0);
        entriesAre(0, 2);
        entriesAre(1);
        entriesAre(2, 4);
        is("merge(0)", 0);
        is("merge(1)", 0);
        entriesAre(2, 6);
        is("table(2, 0, 2)", 0);
        is("table(2, 0, 3)", 31);
    }

    @Says(promise = 7, words = "all entries of it and of level 1 (2) are sifted for level 1 (2)")
    void whatLevel1HadIsSiftedToo() {
        makeTwelveOnLevel1();
        write(2, 0, 11);
        is("flush()", 2);
        is("merge(0)", 2);
        entriesAre(1, 6, 6);
        is("get(-1, 0)", 200);
        is("get(-1, 11)", 211);
        is("merge(1)", 0);
        erase(5);
        is("flush()", 1);
        is("merge(0)", 0);
        is("merge(1)", 2);
        entriesAre(2, 6, 5);
    }

    @Says(promise = 7, words = "When level 0 was merged and level 1 has more than 12 entries then, level 1 is merged "
        + "too.")
    void twelveStayOnLevel1() {
        makeTwelveOnLevel1();
        // Fourteen come together, of which twelve are left: only what is left then counts.
        write(2, 0, 1);
        is("flush()", 2);
        is("merge(0)", 2);
        entriesAre(1, 6, 6);
        entriesAre(2);
    }

    @Says(promise = 7, words = "When level 0 was merged and level 1 has more than 12 entries then, level 1 is merged "
        + "too.")
    void thirteenGoOnToLevel2() {
        makeTwelveOnLevel1();
        write(2, 12);
        is("flush()", 1);
        is("merge(0)", 0);
        entriesAre(1);
        entriesAre(2, 6, 6, 1);
    }

    @Says(promise = 7, words = "When level 0 was merged and level 1 has more than 12 entries then, level 1 is merged "
        + "too.")
    void theMergeOfAFlushGoesOnToo() {
        makeTwelveOnLevel1();
        for (int key = 12; key < 16; key++) {
            write(2, key);
            is("flush()", 1);
        }
        entriesAre(1, 6, 6);
        write(2, 16);
        is("flush()", 1);
        entriesAre(0, 1);
        entriesAre(1);
        entriesAre(2, 6, 6, 4);
    }

    /** Twelve entries on level 1, all seen apart, and four tables of eight: no level 0 and 1 have more to merge. */
    @Says(promise = 7, words = "all entries of it and of level 1 (2) are sifted for level 1 (2)")
    void theMostThatComesTogetherForLevel1IsKept() {
        makeTwelveOnLevel1();
        is("take()", 0);
        writeAllKeysInTablesOf8(2);
        is("merge(0)", 0);
        entriesAre(1);
        entriesAre(2, 6, 6, 6, 6, 6, 6, 6, 2);
        for (int key = 0; key < 32; key++) {
            is("get(-1, " + key + ")", 200 + key);
            is("get(0, " + key + ")", key < 12 ? 100 + key : 0);
        }
    }

    private void writeAllKeysInTablesOf8(int round) {
        for (int key = 0; key < 32; key += 8) {
            write(round, key, key + 1, key + 2, key + 3);
            write(round, key + 4, key + 5, key + 6, key + 7);
        }
        is("flush()", 8);
        entriesAre(0, 8, 8, 8, 8);
    }

    /** Of each key a value and three deletions, told apart by three snapshots: no level 2 has more. */
    @Says(promise = 7, words = "an entry that is gone is dropped if no entry of its key with a lower serial is left "
        + "in the set")
    void theMostThatIsOnLevel2IsKeptOrDropped() {
        writeAllKeysInTablesOf8(1);
        for (int snapshot = 0; snapshot < 3; snapshot++) {
            is("take()", snapshot);
            eraseAllKeys(32);
        }
        for (String call : new String[] {"flush()", "merge(0)", "merge(1)"}) {
            ask(call);
        }
        entriesAre(2, 6, 6, 6, 6, 6, 6, 6, 6, 6, 6, 6, 6, 6, 6, 6, 6, 6, 6, 6, 6, 6, 2);
        is("scan(0, 0, 31)", 31);
        allAre(NONE, "scan(1, 0, 0)", "scan(2, 0, 0)", "scan(-1, 0, 0)");
        allAre(1, "release(0)", "release(1)", "release(2)");
        eraseAllKeys(12);
        is("flush()", 4);
        is("merge(0)", 0);
        entriesAre(1, 6, 6);
        is("take()", 0);
        eraseAllKeys(32);
        is("flush()", 8);
        entriesAre(0, 8, 8, 8, 8);
        // The snapshot keeps two deletions of each key until nothing is left below them.
        is("merge(0)", 32 + 12 + 4 * 32);
        tablesAre(0, 0, 0);
        is("scan(0, 0, 0)", NONE);
    }

    /** Deletes the keys below a number, and makes room in the log for it. */
    private void eraseAllKeys(int below) {
        for (int i = 0; i < 8 && ask("segment(-1, 0)") > 4; i++) {
            ask("collect()");
        }
        for (int key = 0; key < below; key += 4) {
            erase(key, key + 1, key + 2, key + 3);
        }
    }

    /** Entries of the key 5 with the serials 1 and 3, one of 6 between, and a snapshot that sees so far. */
    private void writeAround(int sight, String... afterEach) {
        renew();
        for (int serial = 0; serial <= 3; serial++) {
            if (serial > 0) {
                write(serial, serial == 2 ? 6 : 5);
                for (String call : afterEach) {
                    ask(call);
                }
            }
            if (serial == sight) {
                is("take()", 0);
            }
        }
    }

    private void seenFrom(int sight) {
        is("get(-1, 5)", 305);
        is("get(0, 5)", sight == 0 ? 0 : sight == 3 ? 305 : 105);
    }

    @Says(promise = 6, words = "no snapshot sees e without seeing the one with the next greater serial in the set")
    void aFlushKeepsWhatASnapshotSeesAlone() {
        int[] left = {2, 3, 3, 2};
        for (int sight = 0; sight <= 3; sight++) {
            writeAround(sight);
            is("flush()", 3);
            entriesAre(0, left[sight]);
            seenFrom(sight);
        }
    }

    @Says(promise = 7, words = "no snapshot sees e without seeing the one with the next greater serial in the set")
    void aMergeToLevel1KeepsWhatASnapshotSeesAlone() {
        int[] dropped = {1, 0, 0, 1};
        for (int sight = 0; sight <= 3; sight++) {
            writeAround(sight, "flush()");
            is("merge(0)", dropped[sight]);
            entriesAre(1, 3 - dropped[sight]);
            seenFrom(sight);
        }
    }

    @Says(promise = 7, words = "no snapshot sees e without seeing the one with the next greater serial in the set")
    void aMergeToLevel2KeepsWhatASnapshotSeesAlone() {
        int[] left = {2, 3, 3, 2};
        for (int sight = 0; sight <= 3; sight++) {
            writeAround(sight, "flush()", "merge(0)", "merge(1)");
            entriesAre(2, left[sight]);
            seenFrom(sight);
        }
    }

    @Says(promise = 7, words = "no snapshot sees e without seeing the one with the next greater serial in the set")
    void aReleasedSnapshotKeepsNothing() {
        writeAround(1);
        is("flush()", 3);
        is("release(0)", true);
        is("merge(0)", 1);
        entriesAre(1, 2);
        writeAround(2);
        is("flush()", 3);
        is("merge(0)", 0);
        is("release(0)", true);
        is("merge(1)", 1);
        entriesAre(2, 2);
    }

    @Says(promise = 7, words = "an entry e is dropped if there is an entry of its key with a greater serial in the set")
    void theOnlyEntryOfAKeyIsKept() {
        write(1, 5);
        write(1, 4, 6);
        is("flush()", 3);
        is("merge(0)", 0);
        is("merge(1)", 0);
        entriesAre(2, 3);
        write(2, 5);
        is("flush()", 1);
        is("merge(0)", 0);
        entriesAre(1, 1);
        is("merge(1)", 1);
        entriesAre(2, 3);
        is("get(-1, 5)", 205);
        is("get(-1, 4)", 104);
        is("get(-1, 6)", 106);
    }

    @Says(promise = 7, words = "(whether that is dropped or not)")
    void theNextGreaterOneMayBeDroppedItself() {
        write(1, 5);
        is("take()", 0);
        write(2, 5);
        write(3, 5);
        write(4, 5);
        is("flush()", 4);
        entriesAre(0, 2);
        is("get(0, 5)", 105);
        is("get(-1, 5)", 405);
        is("merge(0)", 0);
        is("release(0)", true);
        is("merge(1)", 1);
        entriesAre(2, 1);
    }

    /** Flushes and merges down to level 2: how many were dropped there. */
    private void mergeDown(int memtable, int droppedOnLevel1, int droppedOnLevel2) {
        is("flush()", memtable);
        is("merge(0)", droppedOnLevel1);
        is("merge(1)", droppedOnLevel2);
    }

    @Says(promise = 7, words = "an entry that is gone is dropped if no entry of its key with a lower serial is left "
        + "in the set")
    void aLoneDeletionIsDroppedForLevel2Alone() {
        erase(5);
        is("flush()", 1);
        entriesAre(0, 1);
        is("merge(0)", 0);
        entriesAre(1, 1);
        is("merge(1)", 1);
        tablesAre(0, 0, 0);
    }

    @Says(promise = 7, words = "an entry that is gone is dropped if no entry of its key with a lower serial is left "
        + "in the set")
    void aLoneValueIsDroppedForLevel2WhenItExpires() {
        for (int time = 4; time <= 6; time++) {
            renew();
            writeFor(5, 7, 5);
            is("tick(" + time + ")", time);
            mergeDown(1, 0, time < 5 ? 0 : 1);
            is("table(2, -1, 0)", time < 5 ? 1 : 0);
        }
    }

    @Says(promise = 7, words = "an entry that is gone is dropped if no entry of its key with a lower serial is left "
        + "in the set")
    void aDeletionOverAValueThatIsLeftIsKept() {
        write(1, 5);
        is("take()", 0);
        erase(5);
        mergeDown(2, 0, 0);
        entriesAre(2, 2);
        is("get(0, 5)", 105);
        is("has(-1, 5)", false);
    }

    /** The entry of a lower serial is on level 2 already, or comes with it: both are in the set. */
    @Says(promise = 7, words = "an entry that is gone is dropped if no entry of its key with a lower serial is left "
        + "in the set")
    void aDeletionOverAValueOfLevel2IsKeptForASnapshot() {
        write(1, 5, 4);
        mergeDown(2, 0, 0);
        is("take()", 0);
        erase(5, 6);
        mergeDown(2, 0, 1);
        entriesAre(2, 3);
        is("release(0)", true);
        write(2, 7);
        mergeDown(1, 0, 2);
        entriesAre(2, 2);
    }

    @Says(promise = 7, words = "For level 2 besides, then:")
    void whatWasDroppedForAGreaterOneIsLeftNoMore() {
        write(1, 5);
        is("flush()", 1);
        erase(5);
        is("flush()", 1);
        is("merge(0)", 1);
        entriesAre(1, 1);
        is("merge(1)", 1);
        tablesAre(0, 0, 0);
        write(2, 5);
        mergeDown(1, 0, 0);
        erase(5);
        mergeDown(1, 0, 2);
        tablesAre(0, 0, 0);
    }

    @Says(promise = 7, words = "(the entries of a key are gone through from the lowest serial on)")
    void deletionsFallFromTheLowestOn() {
        erase(5);
        is("take()", 0);
        erase(5);
        is("take()", 1);
        write(3, 5);
        mergeDown(3, 0, 2);
        entriesAre(2, 1);
        is("has(0, 5)", false);
        is("has(1, 5)", false);
        is("get(-1, 5)", 305);
    }

    @Says(promise = 7, words = "(the entries of a key are gone through from the lowest serial on)")
    void overTheFirstThatIsLeftAllAreLeft() {
        writeFor(5, 1, 3);
        is("take()", 0);
        write(2, 5);
        is("take()", 1);
        erase(5);
        is("take()", 2);
        erase(5);
        is("tick(3)", 3);
        mergeDown(4, 0, 1);
        entriesAre(2, 3);
        is("has(0, 5)", false);
        is("get(1, 5)", 205);
        is("has(2, 5)", false);
    }

    @Says(promise = 17, words = "Of table k (from 0) of a level")
    void tablesAreCountedFrom0() {
        is("table(0, 0, 0)", NONE);
        makeTables(2);
        is("table(0, 0, 0)", 2);
        is("table(0, 1, 0)", 2);
        allAre(NONE, "table(0, 2, 0)", "table(0, -2, 0)", "table(0, LEAST, 0)", "table(0, MOST, 0)", "table(1, 0, 0)",
            "table(2, 0, 0)", "table(-1, 0, 0)", "table(3, 0, 0)", "table(LEAST, 0, 0)", "table(MOST, 0, 0)");
    }

    @Says(promise = 17, words = "NONE if there is no such table or what isn't 0 .. 4.")
    void eachLevelHasTablesOfItsOwn() {
        makeTables(4);
        write(5, 5, 6, 7, 8);
        is("flush()", 4);
        allAre(NONE, "table(0, 1, 0)", "table(1, 1, 0)", "table(2, 0, 0)");
        is("merge(0)", 0);
        allAre(NONE, "table(0, 0, 0)", "table(1, 2, 0)", "table(2, 0, 0)");
        is("table(1, 1, 0)", 3);
        is("merge(1)", 0);
        allAre(NONE, "table(0, 0, 0)", "table(1, 0, 0)", "table(2, 2, 0)");
        is("table(2, 1, 0)", 3);
    }

    @Says(promise = 17, words = "what isn't 0 .. 4")
    void ofATable0To4AreTold() {
        write(1, 3, 9);
        is("flush()", 2);
        is("table(0, 0, 0)", 2);
        is("table(0, 0, 4)", 2);
        allAre(NONE, "table(0, 0, -1)", "table(0, 0, 5)", "table(0, 0, LEAST)", "table(0, 0, MOST)");
    }

    @Says(promise = 17, words = "TABLES are on LEVELS 0, 1, 2")
    void tablesGoDownFromLevel0ToLevel2() {
        write(1, 1);
        tablesAre(0, 0, 0);
        is("flush()", 1);
        tablesAre(1, 0, 0);
        is("merge(0)", 0);
        tablesAre(0, 1, 0);
        is("merge(1)", 0);
        tablesAre(0, 0, 1);
        allAre(NONE, "table(3, 0, 0)", "table(-1, 0, 0)");
    }

    @Says(promise = 17, words = "k = -1: how many tables the level has (NONE if it isn't 0 .. 2)")
    void levels0To2AreThere() {
        allAre(0, "table(0, -1, 0)", "table(1, -1, 0)", "table(2, -1, 0)");
        allAre(NONE, "table(-1, -1, 0)", "table(3, -1, 0)", "table(LEAST, -1, 0)", "table(MOST, -1, 0)");
        makeTables(4);
        allAre(4, "table(0, -1, 0)", "table(0, -1, 1)", "table(0, -1, 2)", "table(0, -1, 3)", "table(0, -1, 4)");
        allAre(0, "table(1, -1, 0)", "table(2, -1, 0)");
        allAre(NONE, "table(-1, -1, 0)", "table(3, -1, 0)");
    }

    @Says(promise = 17, words = "what 0 how many entries it has")
    void entriesOfOneKeyCountEach() {
        write(1, 5);
        is("take()", 0);
        write(2, 5);
        is("take()", 1);
        write(3, 5);
        is("flush()", 3);
        is("table(0, 0, 0)", 3);
        is("table(0, 0, 2)", 5);
        is("table(0, 0, 3)", 5);
        is("table(0, 0, 4)", 3);
    }

    @Says(promise = 17, words = "each is a row of 1 to 8 entries")
    void aTableHas1To8Entries() {
        write(1, 31);
        is("flush()", 1);
        entriesAre(0, 1);
        allAre(31, "table(0, 0, 2)", "table(0, 0, 3)");
        write(1, 0, 1, 2, 3, 4, 5);
        write(1, 6, 7);
        is("flush()", 8);
        entriesAre(0, 8, 1);
        is("table(0, 0, 2)", 0);
        is("table(0, 0, 3)", 7);
    }

    @Says(promise = 17, words = "2 the key of its first, 3 of its last entry; 4 the greatest serial in it")
    void theFirstTheLastAndTheGreatestMayBeThreeEntries() {
        write(1, 20, 31, 0);
        write(1, 15);
        is("flush()", 4);
        is("table(0, 0, 2)", 0);
        is("table(0, 0, 3)", 31);
        is("table(0, 0, 4)", 4);
        write(2, 7);
        is("flush()", 1);
        is("table(0, 0, 2)", 7);
        is("table(0, 0, 3)", 7);
        is("table(0, 0, 4)", 5);
    }

    /** Of the entries of one key the cut after the sixth leaves the greater one in the table before. */
    @Says(promise = 17, words = "by key, those of one key by serial, the greatest first")
    void ofOneKeyTheGreatestSerialComesFirst() {
        write(1, 5, 4, 3, 2, 1, 0);
        is("take()", 0);
        write(2, 5);
        is("flush()", 7);
        is("merge(0)", 0);
        entriesAre(1, 6, 1);
        is("table(1, 0, 3)", 5);
        is("table(1, 0, 4)", 7);
        is("table(1, 1, 2)", 5);
        is("table(1, 1, 4)", 1);
    }

    @Says(promise = 17, words = "Level 0 has at most 4 tables, the newest one first.")
    void theNewestTableComesFirst() {
        makeTables(4);
        for (int k = 0; k < 4; k++) {
            is("table(0, " + k + ", 4)", 8 - 2 * k);
            is("table(0, " + k + ", 2)", 3 - k);
        }
        write(9, 9);
        is("flush()", 1);
        is("table(0, -1, 0)", 1);
        is("table(0, 0, 2)", 9);
    }

    @Says(promise = 17, words = "cut into tables of 6 (the last one perhaps of fewer)")
    void levels1And2AreCutAfterTheSixth() {
        int[][] cuts = {{1}, {2}, {3}, {4}, {5}, {6}, {6, 1}, {6, 2}, {6, 3}, {6, 4}, {6, 5}, {6, 6}};
        for (int count = 1; count <= 12; count++) {
            renew();
            for (int key = 0; key < count; key++) {
                write(1, key);
            }
            ask("flush()");
            is("merge(0)", 0);
            entriesAre(1, cuts[count - 1]);
            is("merge(1)", 0);
            entriesAre(2, cuts[count - 1]);
        }
    }

    @Says(promise = 17, words = "cut into tables of 6 (the last one perhaps of fewer), in this order")
    void theCutRowGoesOnFromTableToTable() {
        makeTwelveOnLevel1();
        write(1, 31);
        is("flush()", 1);
        is("merge(0)", 0);
        entriesAre(2, 6, 6, 1);
        int[] first = {0, 6, 31};
        int[] last = {5, 11, 31};
        for (int k = 0; k < 3; k++) {
            is("table(2, " + k + ", 2)", first[k]);
            is("table(2, " + k + ", 3)", last[k]);
        }
    }

    @Says(promise = 17, words = "bits (5 k + 1) % 32 and (11 k + 7) % 32 of key k")
    void everyKeyHasItsBits() {
        for (int key = 0; key < 32; key++) {
            renew();
            write(1, key);
            is("flush()", 1);
            is("table(0, 0, 1)", 1 << ONE_BIT[key] | 1 << OTHER_BIT[key]);
        }
    }

    @Says(promise = 17, words = "The filter of a table has these two bits of each of its entries' keys.")
    void theBitsOfAllKeysOfATableAreThere() {
        write(1, 0, 31, 15);
        is("flush()", 3);
        is("table(0, 0, 1)", (1 << 1) + (1 << 7) + (1 << 28) + (1 << 12));
        erase(19);
        is("flush()", 1);
        is("table(0, 0, 1)", (1 << 0) + (1 << 24));
        is("merge(0)", 0);
        is("table(1, 0, 1)", (1 << 1) + (1 << 7) + (1 << 28) + (1 << 12) + (1 << 0) + (1 << 24));
        is("merge(1)", 1);
        is("table(2, 0, 1)", (1 << 1) + (1 << 7) + (1 << 28) + (1 << 12));
    }

    @Says(promise = 17, words = "The filter of a table has these two bits of each of its entries' keys.")
    void ofKeysThatWentOnNoBitsAreLeft() {
        write(1, 0, 1, 2, 3, 4, 5);
        is("flush()", 6);
        allAre(0, "merge(0)", "merge(1)");
        erase(0, 1, 2, 3, 4, 5);
        is("flush()", 6);
        is("merge(0)", 0);
        is("merge(1)", 12);
        write(2, 31);
        is("flush()", 1);
        is("table(0, 0, 1)", 1 << 28);
        is("merge(0)", 0);
        is("table(1, 0, 1)", 1 << 28);
        is("merge(1)", 0);
        is("table(2, 0, 1)", 1 << 28);
    }

    @Says(promise = 17, words = "1 its FILTER as an int, bit 31 its sign")
    void bit31OfTheFilterIsItsSign() {
        write(1, 6);
        is("flush()", 1);
        is("table(0, 0, 1)", LEAST + 512);
        write(1, 8);
        is("flush()", 1);
        is("table(0, 0, 1)", LEAST + 512);
        write(1, 25);
        is("flush()", 1);
        is("table(0, 0, 1)", (1 << 30) + (1 << 26));
    }
}
