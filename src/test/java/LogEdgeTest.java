/** Sentence by sentence, the edges of collecting, of crashes and of the segments: promises 8, 12 and 18. */
final class LogEdgeTest extends Bench {
    public static void main(String[] args) {
        new LogEdgeTest().runSentenceTests();
    }

    @Says(promise = 8, words = "NONE, and nothing is done: it is the head")
    void theHeadIsNotCollected() {
        is("collect()", NONE);
        write(1, 1, 2, 3, 4, 5, 6);
        write(2, 1, 2, 3, 4, 5, 6);
        write(3, 1);
        is("segment(0, 1)", 16);
        is("collect()", NONE);
        is("look(0)", 7);
        is("look(2)", 2);
        is("segment(0, 0)", 0);
        write(4, 1);
        is("segment(-1, 0)", 2);
        // Six values of the older table, and of the newer one those of 2 .. 6.
        is("collect()", 6 + 5);
        is("collect()", NONE);
    }

    @Says(promise = 8, words = "NONE, and nothing is done: it is the head")
    void collectingTheHeadChangesNothing() {
        changesNothing(() -> {
            write(1, 1, 2);
            is("flush()", 2);
            write(2, 2, 3);
            is("take()", 0);
            write(3, 2);
            is("put(4, 4, 0)", 1);
        }, () -> allAre(NONE, "collect()", "collect()"));
    }

    /** A tail of 16 cells or fewer, of which the values of the keys 0 .. live - 1 stay live; then a head of 3 cells. */
    private void makeTailWith(int live) {
        renew();
        for (int record = 0; record < 2; record++) {
            for (int i = 0; i < 6; i++) {
                int key = 6 * record + i;
                is(key < live ? "put(" + key + ", " + (100 + key) + ", 0)" : "delete(" + key + ")", i + 1);
            }
            is("commit()", 6);
        }
        if (live == 13) {
            write(1, 12);
        }
        write(1, 30, 31);
        is("segment(-1, 0)", 2);
        is("segment(0, 2)", live);
        is("segment(1, 1)", 3);
    }

    @Says(promise = 8, words = "Collects the tail: how many values were written again.")
    void from0To13ValuesAreWrittenAgain() {
        for (int live = 0; live <= 13; live++) {
            makeTailWith(live);
            is("collect()", live);
            for (int key = 0; key < live; key++) {
                is("get(-1, " + key + ")", 100 + key);
            }
            is("has(-1, " + live + ")", false);
        }
    }

    @Says(promise = 8, words = "are written again in records of 6 (the last one perhaps of fewer)")
    void whatIsWrittenAgainIsCutAfterTheSixth() {
        int[] cells = {0, 2, 3, 4, 5, 6, 7, 9, 10, 11, 12, 13};
        for (int live = 0; live < cells.length; live++) {
            makeTailWith(live);
            is("collect()", live);
            is("segment(-1, 0)", 1);
            is("segment(0, 1)", 3 + cells[live]);
            is("segment(0, 2)", 2 + live);
        }
        // The second record of 7 cells has no room in the head; the third one, of 2, goes behind it.
        makeTailWith(13);
        is("collect()", 13);
        is("segment(-1, 0)", 2);
        is("segment(0, 1)", 3 + 7);
        is("segment(1, 1)", 7 + 2);
        is("segment(0, 2)", 2 + 6);
        is("segment(1, 2)", 6 + 1);
    }

    @Says(promise = 8, words = "all records are synced, and the tail is no segment any more: the next one is the tail")
    void theNextSegmentIsTheTail() {
        makeTailWith(3);
        is("segment(0, 0)", 0);
        is("segment(1, 0)", 1);
        is("look(2)", 2);
        is("collect()", 3);
        is("segment(-1, 0)", 1);
        is("segment(0, 0)", 1);
        is("segment(1, 0)", NONE);
        is("look(2)", 0);
        is("crash(0)", 0);
        is("segment(0, 2)", 5);
        is("get(-1, 2)", 102);
    }

    /** With the values, their entries move: the collected ones are live in the next tail and are collected again. */
    @Says(promise = 8, words = "of which the entries have their values then")
    void whatWasWrittenAgainIsCollectedAgain() {
        makeTailWith(6);
        is("collect()", 6);
        is("segment(0, 2)", 8);
        write(2, 20, 21, 22, 23, 24, 25);
        is("segment(1, 1)", 7);
        is("collect()", 8);
        is("segment(0, 0)", 2);
        is("segment(0, 1)", 7 + 7);
        is("segment(1, 1)", 3);
        is("segment(0, 2)", 12);
        is("segment(1, 2)", 2);
        for (int key = 0; key < 6; key++) {
            is("get(-1, " + key + ")", 100 + key);
        }
        is("get(-1, 30)", 130);
        is("get(-1, 31)", 131);
    }

    @Says(promise = 8, words = "of which the entries have their values then")
    void whatWasWrittenAgainKeepsItsSerialAndItsLife() {
        writeFor(0, 10, 5);
        write(1, 1, 2, 3, 4, 5, 6);
        is("flush()", 7);
        is("tick(2)", 2);
        write(2, 7, 8, 9, 10, 11, 12);
        is("segment(-1, 0)", 1);
        write(3, 13);
        is("collect()", 13);
        is("look(1)", 14);
        is("table(0, 0, 4)", 14);
        is("table(0, 1, 4)", 7);
        is("tick(2)", 4);
        is("get(-1, 0)", 10);
        is("tick(1)", 5);
        is("has(-1, 0)", false);
        is("get(-1, 1)", 101);
    }

    /** Written from key 11 down to 0: by cells the record that stays in the head has 11 .. 6, by keys it had 0 .. 5. */
    @Says(promise = 8, words = "in the order of their cells")
    void theFirstCellsAreWrittenFirst() {
        write(1, 11, 10, 9, 8, 7, 6);
        write(1, 5, 4, 3, 2, 1, 0);
        write(1, 20, 21, 22);
        is("collect()", 12);
        is("segment(0, 1)", 4 + 7);
        is("segment(1, 1)", 7);
        erase(11, 10, 9, 8, 7, 6);
        is("flush()", 6);
        is("merge(0)", 6 + 6);
        is("segment(0, 2)", 3);
        is("segment(1, 2)", 6);
    }

    /** In a tail that was written to again the older entries have the later cells: 4 and 5 are the last ones there. */
    @Says(promise = 8, words = "in the order of their cells")
    void theOrderOfCellsIsNotThatOfSerials() {
        makeTailWith(6);
        is("collect()", 6);
        write(2, 20, 21, 22, 23, 24, 25);
        is("collect()", 2 + 6);
        is("segment(0, 2)", 6 + 6);
        is("segment(1, 2)", 2);
        erase(4, 5);
        is("flush()", 2);
        ask("merge(0)");
        is("segment(0, 2)", 6 + 6);
        is("segment(1, 2)", 0);
    }

    /** Entries of the tail from level 2, level 1 and level 0 that lie in its cells in another order. */
    @Says(promise = 8, words = "in the order of their cells")
    void theOrderOfCellsGoesThroughAllLevels() {
        write(1, 9, 8);
        is("flush()", 2);
        allAre(0, "merge(0)", "merge(1)");
        write(1, 5, 6);
        is("flush()", 2);
        is("merge(0)", 0);
        write(1, 0, 1, 2);
        is("flush()", 3);
        write(1, 3, 4);
        is("segment(0, 1)", 3 + 3 + 4 + 3);
        write(1, 20, 21, 22, 23, 24, 25);
        is("segment(1, 1)", 7);
        is("collect()", 9);
        is("segment(0, 1)", 7 + 7);
        is("segment(1, 1)", 4);
        // In the first record are 9, 8, 5, 6, 0, 1: with them deleted only the six of the head are live there.
        erase(9, 8, 5, 6, 0, 1);
        is("flush()", 6);
        ask("merge(0)");
        ask("merge(1)");
        is("segment(0, 2)", 6);
        is("segment(1, 2)", 3);
    }

    @Says(promise = 8, words = "COLLECTING the tail: first the store flushes")
    void whatTheFlushDropsIsNotWrittenAgain() {
        write(1, 0, 1, 2, 3, 4, 5);
        is("flush()", 6);
        write(2, 7, 8, 9, 10);
        write(3, 7, 8, 9, 10);
        is("segment(0, 1)", 7 + 5);
        is("segment(1, 1)", 5);
        is("segment(0, 2)", 10);
        is("collect()", 6);
        is("look(0)", 0);
        is("table(0, -1, 0)", 2);
        is("get(-1, 7)", 307);
        is("get(-1, 0)", 100);
    }

    @Says(promise = 8, words = "then the live values of the tail")
    void ofOtherSegmentsNothingIsWrittenAgain() {
        fillSegments(2, keys(0, 1, 2, 3, 4, 5), keys(6, 7, 8, 9, 10, 11), keys(20, 21, 22, 23, 24, 25));
        is("segment(0, 2)", 12);
        is("segment(1, 2)", 12);
        is("collect()", 12);
        is("segment(0, 1)", 14);
        is("segment(0, 2)", 12);
        is("segment(1, 1)", 14);
        is("segment(1, 2)", 12);
    }

    @Says(promise = 8, words = "If that needs more than 8 segments at once (the tail is one of them), it is FULL")
    void theLastTwoCellsOfEightSegmentsDoForOneValue() {
        fillSegments(8, keys(0, 12, 13, 14, 15, 16));
        is("segment(0, 2)", 1);
        is("collect()", 1);
        is("segment(-1, 0)", 7);
        is("segment(6, 1)", 16);
        is("get(-1, 0)", 100);
    }

    @Says(promise = 8, words = "If that needs more than 8 segments at once (the tail is one of them), it is FULL")
    void theLastTwoCellsOfEightSegmentsDoNotDoForTwoValues() {
        fillSegments(8, keys(0, 1, 12, 13, 14, 15));
        is("segment(0, 2)", 2);
        is("collect()", FULL);
        is("segment(-1, 0)", 8);
        is("segment(7, 1)", 14);
    }

    @Says(promise = 8, words = "If that needs more than 8 segments at once (the tail is one of them), it is FULL")
    void theEighthSegmentMayBeBegunForIt() {
        fillSegments(7, keys(0, 1, 2, 3, 4, 5), keys(6, 7, 8, 9, 10, 11));
        is("collect()", 12);
        is("segment(-1, 0)", 7);
        is("segment(0, 0)", 1);
        is("segment(6, 0)", 7);
        is("segment(6, 1)", 14);
        is("segment(6, 2)", 12);
    }

    @Says(promise = 8, words = "If that needs more than 8 segments at once (the tail is one of them), it is FULL")
    void aNinthSegmentIsNotBegunForIt() {
        fillSegments(8, keys(0, 1, 2, 3, 4, 5), keys(6, 7, 8, 9, 10, 11));
        is("segment(0, 2)", 12);
        is("collect()", FULL);
        is("segment(-1, 0)", 8);
        is("segment(0, 0)", 0);
        is("segment(0, 2)", 12);
        is("segment(7, 1)", 14);
    }

    @Says(promise = 8, words = "If that needs more than 8 segments at once (the tail is one of them), it is FULL")
    void withNothingLiveAFullLogIsCollected() {
        fillSegments(8);
        write(50, 20);
        is("segment(7, 1)", 16);
        is("segment(0, 2)", 0);
        is("collect()", 0);
        is("segment(-1, 0)", 7);
        is("segment(0, 0)", 1);
        is("segment(6, 1)", 16);
    }

    /** Seven values take 7 and 2 cells: with 7 left in the eighth segment only the first record has room. */
    private void makeSevenLiveWith(int cellsLeft) {
        fillSegments(7, keys(0, 1, 2, 3, 4, 5), keys(6, 12, 13, 14, 15, 16));
        write(50, 12, 13, 14, 15, 16, 17);
        if (cellsLeft == 7) {
            write(51, 12);
        }
        is("segment(7, 1)", 16 - cellsLeft);
        is("segment(0, 2)", 7);
    }

    @Says(promise = 8, words = "nothing is written again, and the flush stays")
    void theRecordThatWouldFitIsNotWrittenEither() {
        makeSevenLiveWith(7);
        is("collect()", FULL);
        is("segment(7, 1)", 9);
        is("segment(0, 2)", 7);
        is("segment(0, 0)", 0);
        is("look(0)", 0);
        is("look(2)", 0);
        renew();
        makeSevenLiveWith(9);
        is("collect()", 7);
        is("segment(-1, 0)", 7);
        is("segment(6, 1)", 16);
    }

    @Says(promise = 8, words = "nothing is written again, and the flush stays")
    void aCollectThatIsFullDoesWhatAFlushDoes() {
        comeToTheSame(() -> {
            makeSevenLiveWith(7);
            is("look(0)", 7);
            is("put(1, 1, 0)", 1);
            is("take()", 0);
        }, () -> is("flush()", 7), () -> allAre(FULL, "collect()", "collect()"));
    }

    /** The tail's six values are hidden by a table of level 0, which is merged only because the memtable is flushed. */
    @Says(promise = 8, words = "(It flushes before it looks whether it is FULL.)")
    void theFlushMayMakeTheRoom() {
        write(1, 0, 1, 2, 3, 4, 5);
        for (int record = 2; record <= 12; record++) {
            write(record, 12, 13, 14, 15, 16, 17);
        }
        write(13, 0, 1, 2, 3, 4, 5);
        for (int record = 14; record <= 16; record++) {
            write(record, 12, 13, 14, 15, 16, 17);
        }
        is("flush()", 6);
        is("table(0, -1, 0)", 4);
        write(17, 20);
        is("segment(-1, 0)", 8);
        is("segment(7, 1)", 16);
        is("segment(0, 2)", 6);
        is("collect()", 0);
        is("segment(-1, 0)", 7);
        is("segment(0, 0)", 1);
        is("get(-1, 0)", 1300);
    }

    @Says(promise = 8, words = "A value of a segment is LIVE if an entry that isn't dropped (in a table or the "
        + "memtable) and is no deletion has it.")
    void anExpiredValueIsWrittenAgain() {
        is("put(0, 10, 1)", 1);
        is("put(1, 11, 0)", 2);
        is("delete(2)", 3);
        is("commit()", 3);
        write(1, 3, 4, 5, 6, 7, 8);
        write(2, 3, 4, 5, 6, 7, 8);
        is("segment(1, 1)", 7);
        is("tick(1)", 1);
        is("segment(0, 2)", 8);
        is("collect()", 8);
        is("segment(-1, 0)", 2);
        is("has(-1, 0)", false);
        is("get(-1, 1)", 11);
    }

    @Says(promise = 8, words = "with the next number")
    void numbersGoOnWhenSegmentsAreGone() {
        erase(1, 2, 3, 4, 5, 6);
        erase(1, 2, 3, 4, 5, 6);
        for (int number = 0; number < 28; number++) {
            is("segment(0, 0)", number);
            erase(1, 2, 3, 4, 5, 6);
            is("segment(1, 0)", number + 1);
            is("collect()", 0);
            erase(1, 2, 3, 4, 5, 6);
        }
        is("segment(-1, 0)", 1);
        is("segment(0, 0)", 28);
        is("segment(0, 1)", 14);
    }

    /** One synced record, then three that aren't, of 1, 2 and 3 writes. */
    private void makeThreeUnsynced() {
        renew();
        write(1, 9);
        is("sync()", 1);
        write(2, 1);
        write(3, 1, 2);
        write(4, 1, 2, 3);
        is("look(2)", 3);
    }

    @Says(promise = 12, words = "keep of the records that aren't synced stay (all, if there are fewer; 0, if keep is "
        + "below 0): how many were lost.")
    void from0ToAllRecordsStay() {
        String[] keep = {"LEAST", "-1", "0", "1", "2", "3", "4", "MOST"};
        int[] lost = {3, 3, 3, 2, 1, 0, 0, 0};
        int[] entries = {1, 1, 1, 2, 4, 7, 7, 7};
        int[] cells = {2, 2, 2, 4, 7, 11, 11, 11};
        int[] valueOf1 = {0, 0, 0, 201, 301, 401, 401, 401};
        for (int i = 0; i < keep.length; i++) {
            makeThreeUnsynced();
            is("crash(" + keep[i] + ")", lost[i]);
            is("look(0)", entries[i]);
            is("look(1)", entries[i]);
            is("segment(0, 1)", cells[i]);
            is("segment(0, 2)", entries[i]);
            is("get(-1, 9)", 109);
            is("get(-1, 1)", valueOf1[i]);
        }
    }

    @Says(promise = 12, words = "(all, if there are fewer; 0, if keep is below 0)")
    void withNothingUnsyncedNothingIsLost() {
        String[] keep = {"LEAST", "-1", "0", "1", "MOST"};
        for (String k : keep) {
            renew();
            is("crash(" + k + ")", 0);
            write(1, 1, 2);
            is("sync()", 1);
            is("crash(" + k + ")", 0);
            is("look(0)", 2);
            is("flush()", 2);
            is("crash(" + k + ")", 0);
            is("get(-1, 2)", 102);
            is("look(1)", 2);
        }
    }

    @Says(promise = 12, words = "keep of the records that aren't synced stay")
    void eightRecordsMayStayOrBeLost() {
        for (int keep = -1; keep <= 9; keep++) {
            renew();
            for (int n = 1; n <= 8; n++) {
                write(n, 5);
            }
            int kept = keep < 0 ? 0 : keep > 8 ? 8 : keep;
            is("crash(" + keep + ")", 8 - kept);
            is("look(0)", kept);
            is("look(1)", kept);
            is("segment(0, 1)", 2 * kept);
            is("get(-1, 5)", kept == 0 ? 0 : 100 * kept + 5);
        }
    }

    @Says(promise = 12, words = "snapshots and the batch made ready are lost")
    void snapshotsAndBatchAreLostThoughNoRecordIs() {
        write(1, 1);
        is("sync()", 1);
        for (int snapshot = 0; snapshot < 3; snapshot++) {
            is("take()", snapshot);
        }
        for (int n = 1; n <= 6; n++) {
            is("put(1, 9, 0)", n);
        }
        is("crash(MOST)", 0);
        allAre(0, "look(3)", "look(4)", "has(0, 1)", "has(1, 1)", "has(2, 1)", "release(0)", "release(1)", "release(2)");
        allAre(BAD, "scan(0, 0, 0)", "scan(1, 0, 0)", "scan(2, 0, 0)");
        is("commit()", NONE);
        is("get(-1, 1)", 101);
        is("take()", 0);
        is("put(2, 2, 0)", 1);
    }

    /** What a snapshot kept apart is dropped by the next merge when the crash has taken the snapshot. */
    @Says(promise = 12, words = "snapshots and the batch made ready are lost")
    void aLostSnapshotKeepsNoEntry() {
        write(1, 1);
        is("take()", 0);
        write(2, 1);
        is("flush()", 2);
        entriesAre(0, 2);
        is("crash(0)", 0);
        is("merge(0)", 1);
        entriesAre(1, 1);
    }

    @Says(promise = 12, words = "the others are as if they had never been written (a head that was begun for one of "
        + "them isn't there), nor their entries")
    void allIsAsIfTheLostRecordsHadNeverBeenWritten() {
        comeToTheSame(this::makeSomeThatStays, () -> is("crash(0)", 0), () -> {
            is("take()", 0);
            write(5, 1, 2, 9);
            erase(3);
            is("segment(-1, 0)", 2);
            is("put(4, 4, 4)", 1);
            is("crash(0)", 2);
        });
    }

    private void makeSomeThatStays() {
        is("tick(5)", 5);
        write(1, 1, 2, 3, 4, 5, 6);
        is("flush()", 6);
        write(2, 1, 2);
        write(3, 2);
        writeFor(7, 7, 9);
        is("sync()", 3);
        is("segment(0, 1)", 14);
    }

    @Says(promise = 12, words = "of the records that aren't synced the first few stay")
    void allIsAsIfOnlyTheFirstFewHadBeenWritten() {
        comeToTheSame(this::makeSomeThatStays, () -> {
            write(4, 8);
            is("crash(1)", 0);
        }, () -> {
            write(4, 8);
            erase(8);
            write(5, 7, 8);
            is("crash(1)", 2);
        });
    }

    @Says(promise = 12, words = "(a head that was begun for one of them isn't there)")
    void theBegunHeadGoesWithTheRecordThatBeganIt() {
        int[] segments = {1, 1, 2, 2};
        int[] tailCells = {13, 15, 15, 15};
        for (int keep = 0; keep <= 3; keep++) {
            renew();
            write(1, 1, 2, 3, 4, 5, 6);
            is("flush()", 6);
            write(1, 1, 2, 3, 4, 5);
            is("flush()", 5);
            write(2, 1);
            write(3, 1);
            write(4, 1);
            is("segment(0, 1)", 15);
            is("segment(1, 1)", 4);
            is("crash(" + keep + ")", 3 - keep);
            is("segment(-1, 0)", segments[keep]);
            is("segment(0, 1)", tailCells[keep]);
            is("segment(1, 1)", keep < 2 ? NONE : 2 * (keep - 1));
            is("segment(1, 0)", keep < 2 ? NONE : 1);
        }
    }

    @Says(promise = 12, words = "(a head that was begun for one of them isn't there)")
    void theNumberOfALostHeadIsGivenAgain() {
        fillSegments(1);
        is("sync()", 1);
        write(3, 1, 2);
        is("segment(1, 0)", 1);
        is("crash(0)", 1);
        is("segment(1, 0)", NONE);
        is("collect()", NONE);
        write(4, 1, 2);
        is("segment(1, 0)", 1);
        is("segment(1, 1)", 3);
        is("segment(1, 2)", 2);
    }

    @Says(promise = 12, words = "(a head that was begun for one of them isn't there)")
    void withoutTheLostEighthHeadTheLogIsNotFull() {
        fillSegments(7);
        write(50, 1, 2, 3, 4, 5, 6);
        is("segment(-1, 0)", 8);
        is("crash(0)", 1);
        is("segment(-1, 0)", 7);
        is("segment(7, 0)", NONE);
        write(51, 1, 2, 3, 4, 5, 6);
        is("segment(-1, 0)", 8);
        is("segment(7, 0)", 7);
        is("segment(7, 1)", 7);
    }

    @Says(promise = 12, words = "nor their entries")
    void whatALostEntryHidIsSeenAgain() {
        write(1, 1, 2, 3);
        is("flush()", 3);
        write(2, 2);
        is("sync()", 1);
        erase(1, 2);
        write(3, 3, 4);
        is("scan(-1, 0, 0)", 3);
        is("crash(0)", 2);
        is("get(-1, 1)", 101);
        is("get(-1, 2)", 202);
        is("get(-1, 3)", 103);
        is("has(-1, 4)", false);
        is("segment(0, 2)", 4);
    }

    @Says(promise = 12, words = "the latest serial is the last one left")
    void serialsGoOnFromTheLastOneLeft() {
        write(1, 1, 2);
        is("crash(0)", 1);
        is("look(1)", 0);
        write(2, 1, 2, 3);
        write(3, 1);
        is("crash(1)", 1);
        is("look(1)", 3);
        is("take()", 0);
        write(4, 1);
        is("look(1)", 4);
        is("get(0, 1)", 201);
        is("get(-1, 1)", 401);
        is("flush()", 4);
        is("table(0, 0, 4)", 4);
        entriesAre(0, 4);
    }

    @Says(promise = 12, words = "Then all records are synced.")
    void whatStaysIsSynced() {
        makeThreeUnsynced();
        is("crash(2)", 1);
        is("look(2)", 0);
        is("sync()", 0);
        is("crash(0)", 0);
        is("look(1)", 4);
        write(5, 1);
        is("look(2)", 1);
        is("crash(0)", 1);
        is("get(-1, 1)", 301);
    }

    @Says(promise = 12, words = "a crash loses nothing that was synced")
    void whatWasSyncedIsThereInEveryPlace() {
        write(1, 1);
        is("flush()", 1);
        allAre(0, "merge(0)", "merge(1)");
        write(1, 2);
        is("flush()", 1);
        is("merge(0)", 0);
        write(1, 3);
        is("flush()", 1);
        write(1, 4);
        is("sync()", 1);
        is("crash(-1)", 0);
        for (int k = 0; k < 4; k++) {
            is("scan(-1, 0, " + k + ")", k + 1);
        }
        tablesAre(1, 1, 1);
        is("look(0)", 1);
    }

    @Says(promise = 18, words = "NONE if there is none or what isn't 0 .. 2.")
    void segmentsAreCountedFrom0() {
        is("segment(0, 0)", 0);
        allAre(NONE, "segment(1, 0)", "segment(-2, 0)", "segment(LEAST, 0)", "segment(MOST, 0)");
        fillSegments(8);
        is("segment(7, 0)", 7);
        allAre(NONE, "segment(8, 0)", "segment(8, 1)", "segment(8, 2)", "segment(-2, 0)");
    }

    @Says(promise = 18, words = "NONE if there is none or what isn't 0 .. 2.")
    void ofASegment0To2AreTold() {
        write(1, 1, 2);
        is("segment(0, 0)", 0);
        is("segment(0, 2)", 2);
        allAre(NONE, "segment(0, -1)", "segment(0, 3)", "segment(0, LEAST)", "segment(0, MOST)");
    }

    @Says(promise = 18, words = "k = -1: how many segments there are.")
    void from1To8SegmentsAreThere() {
        is("segment(-1, 0)", 1);
        for (int segments = 1; segments <= 8; segments++) {
            write(1, 1, 2, 3, 4, 5, 6);
            is("segment(-1, 0)", segments);
            write(2, 1, 2, 3, 4, 5, 6);
            is("segment(-1, 0)", segments);
        }
        is("put(1, 1, 0)", 1);
        is("put(2, 1, 0)", 2);
        is("commit()", FULL);
        allAre(8, "segment(-1, 0)", "segment(-1, 1)", "segment(-1, 2)");
    }

    @Says(promise = 18, words = "THE LOG is a row of SEGMENTS with numbers, from the TAIL to the HEAD")
    void everySegmentHasTheNextNumber() {
        fillSegments(8);
        for (int k = 0; k < 8; k++) {
            is("segment(" + k + ", 0)", k);
            is("segment(" + k + ", 1)", 14);
        }
    }

    @Says(promise = 18, words = "Of the segment k behind the tail (0: the tail): what 0 its number")
    void segmentsAreCountedFromTheTail() {
        fillSegments(3);
        for (int k = 0; k < 3; k++) {
            is("segment(" + k + ", 0)", k);
        }
        ask("collect()");
        is("segment(0, 0)", 1);
        is("segment(1, 0)", 2);
    }

    @Says(promise = 18, words = "1 how many of its cells are taken, 2 how many of its values are live")
    void cellsGoFrom0To16AndValuesFrom0To13() {
        allAre(0, "segment(0, 1)", "segment(0, 2)");
        write(1, 0, 1, 2, 3, 4, 5);
        write(1, 6, 7, 8, 9, 10, 11);
        write(1, 12);
        is("segment(0, 1)", 16);
        is("segment(0, 2)", 13);
    }

    @Says(promise = 18, words = "A value of a segment is LIVE if an entry that isn't dropped (in a table or the "
        + "memtable)")
    void aValueIsLiveUntilItsEntryIsDropped() {
        write(1, 1);
        is("take()", 0);
        write(2, 1);
        write(3, 1);
        is("segment(0, 2)", 3);
        is("put(1, 4, 0)", 1);
        is("segment(0, 2)", 3);
        is("flush()", 3);
        is("segment(0, 2)", 2);
        is("release(0)", true);
        is("segment(0, 2)", 2);
        is("merge(0)", 1);
        is("segment(0, 2)", 1);
    }

    @Says(promise = 18, words = "and is no deletion has it")
    void aDeletionIsNotLiveAndAnExpiredValueIs() {
        erase(1, 2);
        is("segment(0, 2)", 0);
        writeFor(3, 3, 1);
        is("segment(0, 2)", 1);
        is("tick(2)", 2);
        is("segment(0, 2)", 1);
        is("flush()", 3);
        is("merge(0)", 0);
        is("segment(0, 2)", 1);
        is("merge(1)", 3);
        is("segment(0, 2)", 0);
        is("segment(0, 1)", 5);
    }
}
