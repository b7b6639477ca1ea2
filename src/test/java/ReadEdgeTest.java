/** Sentence by sentence, the edges of snapshots, of time and of reading: promises 9 to 11, 13 to 16 and 19. */
final class ReadEdgeTest extends Bench {
    public static void main(String[] args) {
        new ReadEdgeTest().runSentenceTests();
    }

    @Says(promise = 9, words = "FULL: three are there.")
    void theThirdSnapshotIsTakenAndNoFourth() {
        is("take()", 0);
        is("take()", 1);
        is("take()", 2);
        allAre(FULL, "take()", "take()");
        is("look(4)", 3);
        is("release(2)", true);
        is("take()", 2);
        is("take()", FULL);
    }

    @Says(promise = 9, words = "FULL: three are there.")
    void aTakeThatIsFullChangesNothing() {
        changesNothing(() -> {
            makeBusy();
            is("take()", 2);
            is("commit()", 3);
            is("put(0, 9, 0)", 1);
        }, () -> allAre(FULL, "take()", "take()"));
    }

    @Says(promise = 9, words = "Takes a snapshot: its number, the lowest that is free.")
    void theLowestFreeNumberIsGiven() {
        for (int freed = 0; freed < 3; freed++) {
            renew();
            is("take()", 0);
            is("take()", 1);
            is("take()", 2);
            is("release(" + freed + ")", true);
            is("take()", freed);
            is("release(2)", true);
            is("release(1)", true);
            is("take()", 1);
            is("release(0)", true);
            is("take()", 0);
            is("take()", 2);
            is("take()", FULL);
        }
    }

    @Says(promise = 9, words = "each sees entries with serials up to the latest one when it was taken")
    void aSnapshotSeesTheLatestEntryAndNotTheNext() {
        is("take()", 0);
        write(1, 1);
        is("take()", 1);
        is("put(2, 2, 0)", 1);
        is("take()", 2);
        is("commit()", 1);
        write(2, 1);
        allAre(0, "has(0, 1)", "has(0, 2)", "has(1, 2)", "has(2, 2)");
        is("get(1, 1)", 101);
        is("get(2, 1)", 101);
        is("get(-1, 1)", 201);
        is("get(-1, 2)", 2);
        is("scan(0, 0, 0)", NONE);
        is("scan(2, 0, 0)", 1);
        is("scan(2, 0, 1)", NONE);
    }

    @Says(promise = 9, words = "SNAPSHOTS 0 .. 2 can be there")
    void eachOfThreeSnapshotsSeesItsOwn() {
        for (int snapshot = 0; snapshot < 3; snapshot++) {
            write(snapshot + 1, 5);
            is("take()", snapshot);
        }
        erase(5);
        is("get(0, 5)", 105);
        is("get(1, 5)", 205);
        is("get(2, 5)", 305);
        is("has(-1, 5)", false);
        is("flush()", 4);
        entriesAre(0, 4);
        is("release(1)", true);
        is("merge(0)", 1);
        is("get(0, 5)", 105);
        is("get(2, 5)", 305);
        is("has(1, 5)", false);
    }

    @Says(promise = 9, words = "snapshots go on seeing what they saw")
    void aSnapshotSeesTheSameThroughFlushesMergesAndCollects() {
        write(1, 0, 1, 2, 3, 4, 5);
        is("take()", 0);
        for (int round = 2; round <= 9; round++) {
            write(round, 0, 1, 2, 12, 13, 14);
        }
        erase(3, 4);
        ask("flush()");
        ask("merge(0)");
        ask("merge(1)");
        is("collect()", 6);
        for (int key = 0; key < 6; key++) {
            is("get(0, " + key + ")", 100 + key);
            is("scan(0, 0, " + key + ")", key);
        }
        is("scan(0, 0, 6)", NONE);
        is("get(-1, 0)", 900);
        is("has(-1, 3)", false);
        is("get(-1, 5)", 105);
    }

    @Says(promise = 10, words = "A snapshot is gone; false if it isn't there.")
    void onlyASnapshotThatIsThereIsReleased() {
        allAre(0, "release(0)", "release(1)", "release(2)");
        allAre(0, "release(-1)", "release(3)", "release(LEAST)", "release(MOST)");
        write(1, 1);
        is("take()", 0);
        is("take()", 1);
        is("take()", 2);
        allAre(0, "release(-1)", "release(3)", "release(LEAST)", "release(MOST)");
        is("look(4)", 3);
        allAre(1, "release(0)", "release(2)");
        allAre(0, "release(0)", "release(2)");
        is("look(4)", 1);
        is("has(0, 1)", false);
        is("has(1, 1)", true);
        is("has(2, 1)", false);
    }

    @Says(promise = 10, words = "false if it isn't there")
    void aReleaseThatIsRefusedChangesNothing() {
        changesNothing(this::makeBusy, () ->
            allAre(0, "release(-1)", "release(2)", "release(3)", "release(LEAST)", "release(MOST)"));
    }

    @Says(promise = 11, words = "Time goes on by n: what time it is.")
    void timeIsTheSumOfAllTicks() {
        is("tick(0)", 0);
        is("tick(1)", 1);
        is("tick(999)", 1000);
        is("tick(1000)", 2000);
        is("tick(0)", 2000);
        write(1, 1);
        is("crash(0)", 1);
        is("tick(0)", 2000);
    }

    @Says(promise = 11, words = "BAD: n isn't 0 .. 1000")
    void timeGoesOnBy0To1000() {
        allAre(BAD, "tick(-1)", "tick(1001)", "tick(LEAST)", "tick(MOST)");
        is("tick(0)", 0);
        is("tick(1000)", 1000);
        allAre(BAD, "tick(-1)", "tick(1001)");
        is("tick(1)", 1001);
        is("tick(1000)", 2001);
    }

    @Says(promise = 11, words = "BAD: n isn't 0 .. 1000")
    void aTickThatIsBadChangesNothing() {
        changesNothing(this::makeBusy, () -> allAre(BAD, "tick(-1)", "tick(1001)", "tick(LEAST)", "tick(MOST)"));
    }

    @Says(promise = 11, words = "or time is at or past the time at which it expires")
    void aValueIsGoneFromItsTimeOn() {
        is("tick(3)", 3);
        writeFor(1, 11, 5);
        is("take()", 0);
        is("tick(4)", 7);
        is("has(-1, 1)", true);
        is("get(-1, 1)", 11);
        is("get(0, 1)", 11);
        is("scan(-1, 0, 0)", 1);
        is("tick(1)", 8);
        allAre(0, "has(-1, 1)", "get(-1, 1)", "has(0, 1)", "get(0, 1)");
        is("scan(-1, 0, 0)", NONE);
        is("tick(1)", 9);
        allAre(0, "has(-1, 1)", "get(-1, 1)");
        is("look(0)", 1);
    }

    @Says(promise = 11, words = "or time is at or past the time at which it expires")
    void theShortestAndTheLongestLifeEndInTime() {
        is("put(1, 11, 1)", 1);
        is("put(2, 12, 1000)", 2);
        is("put(3, 13, 999)", 3);
        is("commit()", 3);
        is("flush()", 3);
        is("tick(0)", 0);
        is("has(-1, 1)", true);
        is("tick(1)", 1);
        is("has(-1, 1)", false);
        is("tick(998)", 999);
        is("has(-1, 3)", false);
        is("has(-1, 2)", true);
        is("tick(1)", 1000);
        is("has(-1, 2)", false);
    }

    @Says(promise = 13, words = "KEYS are 0 .. 31")
    void all32KeysAreReadAndNoOther() {
        for (int key = 0; key < 32; key++) {
            writeFor(key, 1000 + key, 0);
        }
        for (int key = -1; key <= 32; key++) {
            boolean isKey = key >= 0 && key <= 31;
            is("has(-1, " + key + ")", isKey);
            is("get(-1, " + key + ")", isKey ? 1000 + key : 0);
        }
    }

    @Says(promise = 13, words = "An entry is GONE if it is a deletion")
    void aDeletionIsGoneAtOnce() {
        write(1, 1, 2);
        erase(1);
        is("has(-1, 1)", false);
        is("has(-1, 2)", true);
        is("flush()", 3);
        is("has(-1, 1)", false);
        write(2, 1);
        is("has(-1, 1)", true);
        erase(1);
        is("has(-1, 1)", false);
        is("tick(1000)", 1000);
        is("has(-1, 1)", false);
        is("has(-1, 2)", true);
    }

    /** The key 6 is found in the second table, after one that has its bits by the key 8; snapshot 1 alone is there. */
    private void makeSixTakeTwoProbes() {
        write(1, 6, 31);
        is("flush()", 2);
        is("take()", 0);
        is("take()", 1);
        is("release(0)", true);
        write(2, 5, 8);
        is("flush()", 2);
    }

    @Says(promise = 13, words = "false also (and no get) if there is no such snapshot or key")
    void hasOfNoSnapshotOrKeyIsNoGet() {
        makeSixTakeTwoProbes();
        is("has(1, 6)", true);
        is("probes()", 2);
        for (String call : new String[] {"has(-2, 31)", "has(0, 31)", "has(2, 31)", "has(3, 31)", "has(LEAST, 31)",
            "has(MOST, 31)", "has(-1, -1)", "has(-1, 32)", "has(1, LEAST)", "has(1, MOST)", "has(0, 32)"}) {
            is(call, false);
            is("probes()", 2);
        }
        is("has(1, 31)", true);
        is("probes()", 1);
    }

    @Says(promise = 13, words = "whether a snapshot (or NOW, -1) sees a value of a key")
    void hasToldApartFromTheValue0() {
        is("put(1, 0, 0)", 1);
        is("commit()", 1);
        is("take()", 0);
        is("has(-1, 1)", true);
        is("has(0, 1)", true);
        erase(1);
        is("has(-1, 1)", false);
        is("has(0, 1)", true);
        is("has(-1, 2)", false);
    }

    @Says(promise = 14, words = "0 if it is absent, or (and no get) if there is no such snapshot or key")
    void getOfNoSnapshotOrKeyIsNoGet() {
        makeSixTakeTwoProbes();
        is("get(1, 6)", 106);
        is("probes()", 2);
        for (String call : new String[] {"get(-2, 31)", "get(0, 31)", "get(2, 31)", "get(3, 31)", "get(LEAST, 31)",
            "get(MOST, 31)", "get(-1, -1)", "get(-1, 32)", "get(1, LEAST)", "get(1, MOST)", "get(0, 32)"}) {
            is(call, 0);
            is("probes()", 2);
        }
        is("get(1, 31)", 131);
        is("probes()", 1);
    }

    @Says(promise = 14, words = "0 if it is absent")
    void anAbsentKeyIsAGetAndHas0() {
        write(1, 0, 31);
        is("flush()", 2);
        is("get(-1, 0)", 100);
        is("probes()", 1);
        is("get(-1, 1)", 0);
        is("probes()", 0);
        erase(0);
        is("flush()", 1);
        is("get(-1, 0)", 0);
        is("probes()", 1);
        writeFor(31, 7, 1);
        is("tick(1)", 1);
        is("get(-1, 31)", 0);
        is("probes()", 0);
    }

    @Says(promise = 14, words = "of the entries of the key that it sees the one with the greatest serial decides: if "
        + "there is none, or it is gone, the key is ABSENT, otherwise it has its value")
    void underAnEntryThatIsGoneNothingIsSeen() {
        write(1, 1, 2);
        is("flush()", 2);
        erase(1);
        writeFor(2, 9, 2);
        is("get(-1, 2)", 9);
        is("tick(2)", 2);
        allAre(0, "has(-1, 1)", "get(-1, 1)", "has(-1, 2)", "get(-1, 2)", "has(-1, 3)", "get(-1, 3)");
        is("scan(-1, 0, 0)", NONE);
        is("flush()", 2);
        is("merge(0)", 2);
        allAre(0, "has(-1, 1)", "has(-1, 2)");
        write(3, 1);
        is("get(-1, 1)", 301);
    }

    @Says(promise = 14, words = "the value of a key that a snapshot (or NOW, -1) sees")
    void ofManyEntriesEachSnapshotSeesItsGreatest() {
        write(1, 5);
        write(2, 5);
        is("take()", 0);
        write(3, 5, 5);
        is("take()", 1);
        write(4, 5);
        for (String place : new String[] {"look(0)", "flush()", "merge(0)", "merge(1)"}) {
            ask(place);
            is("get(0, 5)", 205);
            is("get(1, 5)", 305);
            is("get(-1, 5)", 405);
            is("get(2, 5)", 0);
        }
    }

    @Says(promise = 14, words = "-1 stands for NOW and sees all")
    void nowSeesTheLatestEntryInEveryPlace() {
        for (int key = 0; key < 4; key++) {
            write(1, key);
        }
        is("get(-1, 3)", 103);
        is("flush()", 4);
        is("get(-1, 3)", 103);
        is("merge(0)", 0);
        is("get(-1, 3)", 103);
        is("merge(1)", 0);
        is("get(-1, 3)", 103);
        is("take()", 0);
        write(2, 3);
        is("get(-1, 3)", 203);
        is("get(0, 3)", 103);
    }

    @Says(promise = 15, words = "The k-th (from 0) of the keys that aren't absent")
    void scanCountsFrom0() {
        is("scan(-1, 0, 0)", NONE);
        write(1, 0, 31, 7);
        is("flush()", 3);
        write(1, 8, 9);
        erase(9);
        int[] keys = {0, 7, 8, 31, NONE};
        for (int k = 0; k < keys.length; k++) {
            is("scan(-1, 0, " + k + ")", keys[k]);
        }
        is("scan(-1, 0, MOST)", NONE);
    }

    @Says(promise = 15, words = "of the keys that aren't absent for a snapshot (or NOW, -1)")
    void scanLeavesOutWhatIsAbsentForTheSnapshot() {
        write(1, 0, 1, 31);
        writeFor(5, 5, 2);
        is("take()", 0);
        erase(0, 31);
        write(2, 7);
        int[] then = {0, 1, 5, 31, NONE};
        int[] now = {1, 5, 7, NONE, NONE};
        for (int k = 0; k < 5; k++) {
            is("scan(0, 0, " + k + ")", then[k]);
            is("scan(-1, 0, " + k + ")", now[k]);
        }
        is("tick(2)", 2);
        is("scan(0, 2, 0)", 31);
        is("scan(-1, 2, 0)", 7);
    }

    @Says(promise = 15, words = "NONE: there are fewer.")
    void scanOfAll32Keys() {
        for (int key = 0; key < 30; key += 6) {
            write(1, key, key + 1, key + 2, key + 3, key + 4, key + 5);
        }
        write(1, 30, 31);
        for (int k = 0; k < 32; k++) {
            is("scan(-1, 0, " + k + ")", k);
            is("scan(-1, " + k + ", " + (31 - k) + ")", 31);
            is("scan(-1, " + k + ", " + (32 - k) + ")", NONE);
        }
        is("scan(-1, 0, 32)", NONE);
    }

    @Says(promise = 15, words = "and are from or more")
    void scanBeginsWithFrom() {
        write(1, 0, 5, 31);
        allAre(0, "scan(-1, 0, 0)", "scan(-1, -1, 0)", "scan(-1, LEAST, 0)");
        allAre(5, "scan(-1, 1, 0)", "scan(-1, 5, 0)", "scan(-1, LEAST, 1)");
        allAre(31, "scan(-1, 6, 0)", "scan(-1, 31, 0)");
        allAre(NONE, "scan(-1, 32, 0)", "scan(-1, MOST, 0)", "scan(-1, 31, 1)", "scan(-1, LEAST, 3)");
    }

    @Says(promise = 15, words = "BAD: there is no such snapshot, or k is below 0")
    void scanOfNoSnapshotOrBelow0IsBad() {
        write(1, 1);
        is("take()", 0);
        allAre(1, "scan(-1, 0, 0)", "scan(0, 0, 0)");
        allAre(BAD, "scan(-2, 0, 0)", "scan(1, 0, 0)", "scan(2, 0, 0)", "scan(3, 0, 0)", "scan(LEAST, 0, 0)",
            "scan(MOST, 0, 0)", "scan(-1, 0, -1)", "scan(0, 0, -1)", "scan(-1, 0, LEAST)", "scan(-1, 32, -1)",
            "scan(1, 32, 0)", "scan(1, 0, 5)");
        is("release(0)", true);
        is("scan(0, 0, 0)", BAD);
    }

    @Says(promise = 15, words = "(No get.)")
    void scanLeavesProbesAlone() {
        write(1, 1, 2);
        is("flush()", 2);
        is("scan(-1, 0, 0)", 1);
        is("probes()", 0);
        is("get(-1, 1)", 101);
        write(2, 1);
        is("scan(-1, 0, 0)", 1);
        is("scan(-1, 0, 1)", 2);
        is("scan(-1, 0, 2)", NONE);
        is("scan(5, 0, 2)", BAD);
        is("probes()", 1);
    }

    @Says(promise = 16, words = "PROBES of the latest get; 0 before the first one.")
    void probesAre0BeforeTheFirstGet() {
        is("probes()", 0);
        write(1, 1);
        is("flush()", 1);
        is("scan(-1, 0, 0)", 1);
        allAre(0, "has(-1, 32)", "get(0, 1)", "probes()");
        is("has(-1, 1)", true);
        is("probes()", 1);
        is("probes()", 1);
        write(2, 1);
        is("flush()", 1);
        is("merge(0)", 1);
        is("crash(0)", 0);
        is("probes()", 1);
        is("has(-1, 2)", false);
        is("probes()", 0);
    }

    @Says(promise = 16, words = "GET looks for the entry with the greatest serial that a snapshot sees of a key")
    void aTableWithOnlyUnseenEntriesIsLookedInAndLeft() {
        write(1, 5);
        is("flush()", 1);
        is("take()", 0);
        write(2, 5);
        is("take()", 1);
        write(3, 5);
        is("flush()", 2);
        entriesAre(0, 2, 1);
        is("get(0, 5)", 105);
        is("probes()", 2);
        is("get(1, 5)", 205);
        is("probes()", 1);
        is("get(-1, 5)", 305);
        is("probes()", 1);
    }

    @Says(promise = 16, words = "in the memtable, then in tables")
    void whatTheMemtableHasIsNotProbed() {
        write(1, 1);
        is("flush()", 1);
        is("take()", 0);
        erase(1);
        is("has(-1, 1)", false);
        is("probes()", 0);
        // The memtable's entry isn't seen by the snapshot: it has to be looked for in the table.
        is("has(0, 1)", true);
        is("probes()", 1);
    }

    @Says(promise = 16, words = "level 0 from the newest one, level 1, level 2 from the first one, in each that MAY "
        + "hold the key, until it is found")
    void tablesAreGoneThroughUntilTheKeyIsFound() {
        is("take()", 0);
        write(1, 5);
        is("take()", 1);
        is("flush()", 1);
        allAre(0, "merge(0)", "merge(1)");
        write(2, 5);
        is("take()", 2);
        is("flush()", 1);
        is("merge(0)", 0);
        write(3, 5);
        is("flush()", 1);
        write(4, 5);
        is("flush()", 1);
        tablesAre(2, 1, 1);
        is("get(-1, 5)", 405);
        is("probes()", 1);
        is("get(2, 5)", 205);
        is("probes()", 3);
        is("get(1, 5)", 105);
        is("probes()", 4);
        is("get(0, 5)", 0);
        is("probes()", 4);
    }

    @Says(promise = 16, words = "until it is found")
    void anEntryThatIsGoneIsFoundAllTheSame() {
        write(1, 5);
        is("flush()", 1);
        erase(5);
        is("flush()", 1);
        is("has(-1, 5)", false);
        is("probes()", 1);
        writeFor(5, 5, 1);
        is("flush()", 1);
        is("tick(1)", 1);
        is("get(-1, 5)", 0);
        is("probes()", 1);
        is("take()", 0);
        is("merge(0)", 2);
        erase(5);
        is("flush()", 1);
        tablesAre(1, 1, 0);
        is("get(-1, 5)", 0);
        is("probes()", 1);
        is("get(0, 5)", 0);
        is("probes()", 2);
    }

    /** The keys 6 and 8 have the same bits, 9 and 31: here only first and last tell them apart. */
    @Says(promise = 16, words = "A table may hold a key if it isn't below its first entry's nor above its last entry's")
    void theFirstAndTheLastKeyAreStillHeld() {
        write(1, 6);
        is("flush()", 1);
        is("has(-1, 6)", true);
        is("probes()", 1);
        is("has(-1, 8)", false);
        is("probes()", 0);
        renew();
        write(1, 8);
        is("flush()", 1);
        is("has(-1, 6)", false);
        is("probes()", 0);
        is("has(-1, 8)", true);
        is("probes()", 1);
        renew();
        write(1, 6, 7);
        is("flush()", 2);
        is("has(-1, 8)", false);
        is("probes()", 0);
        renew();
        write(1, 7, 8);
        is("flush()", 2);
        is("has(-1, 6)", false);
        is("probes()", 0);
    }

    @Says(promise = 16, words = "and its FILTER has both bits")
    void betweenFirstAndLastTheFilterDecides() {
        write(1, 6, 30);
        is("flush()", 2);
        for (int key = 7; key < 30; key++) {
            is("has(-1, " + key + ")", false);
            // Of all keys between, 8 has the bits of 6, and 16 those of 30.
            is("probes()", key == 8 || key == 16 ? 1 : 0);
        }
    }

    @Says(promise = 16, words = "PROBES are the tables that the latest get looked in.")
    void aKeyInTwoTablesOfALevelIsLookedForInBoth() {
        write(1, 0, 1, 2, 3, 4, 5);
        is("take()", 0);
        write(2, 5);
        is("flush()", 7);
        is("merge(0)", 0);
        for (int level = 1; level <= 2; level++) {
            entriesAre(level, 6, 1);
            is("get(-1, 5)", 205);
            is("probes()", 1);
            is("get(0, 5)", 105);
            is("probes()", 2);
            is("merge(1)", level == 1 ? 0 : NONE);
        }
    }

    @Says(promise = 19, words = "NONE if what is another number.")
    void from0To4IsLookedAt() {
        allAre(0, "look(0)", "look(1)", "look(2)", "look(3)", "look(4)");
        allAre(NONE, "look(-1)", "look(5)", "look(LEAST)", "look(MOST)");
        makeBusy();
        int[] want = {4, 12, 3, 3, 2};
        for (int what = 0; what < 5; what++) {
            is("look(" + what + ")", want[what]);
        }
        allAre(NONE, "look(-1)", "look(5)");
    }

    @Says(promise = 19, words = "what 0 how many entries the memtable has, 1 the latest serial (0: none), 2 how many "
        + "records aren't synced, 3 how many writes the batch that is made ready has, 4 how many snapshots there "
        + "are")
    void everyLookGoesFrom0ToItsMost() {
        for (int n = 1; n <= 8; n++) {
            write(n, 5);
            is("look(0)", n);
            is("look(1)", n);
            is("look(2)", n);
        }
        for (int n = 1; n <= 6; n++) {
            ask("put(1, 1, 0)");
            is("look(3)", n);
        }
        for (int n = 1; n <= 3; n++) {
            ask("take()");
            is("look(4)", n);
        }
        is("put(1, 1, 0)", FULL);
        is("take()", FULL);
        is("look(3)", 6);
        is("look(4)", 3);
        is("commit()", 6);
        int[] want = {6, 14, 1, 0, 3};
        for (int what = 0; what < 5; what++) {
            is("look(" + what + ")", want[what]);
        }
    }
}
