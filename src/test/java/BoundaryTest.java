/** Each sentence of the document that names a boundary case, with a test of its own. Refusals are in RefusalTest. */
public final class BoundaryTest extends Answers {
    private static final int LOWEST = Integer.MIN_VALUE;
    private static final int HIGHEST = Integer.MAX_VALUE;
    private static final int FULL = ExtentDisk.FULL;
    private static final int CUT = ExtentDisk.CUT;

    /** Bytes first, first + 1, .. of extent i, around each block's edges and at its ends. */
    private static void dueBytes(ExtentDisk d, int i, int first, int size) {
        for (int k = 0; k < size; k++) {
            int at = k;
            if (k % 4096 == 0 || k % 4096 == 4095 || k == size - 1) {
                due("byte " + k + " of extent " + i, (first + k) & 255, () -> d.byteAt(i, at));
            }
        }
        due("byte " + size + " of extent " + i, ARGUMENT, () -> d.byteAt(i, size));
    }

    private static void dueExtent(ExtentDisk d, int i, int label, int first, int bytes) {
        due("label of extent " + i, label, () -> d.extent(i, 0));
        due("first block of extent " + i, first, () -> d.extent(i, 1));
        due("blocks of extent " + i, (bytes + 4095) / 4096, () -> d.extent(i, 2));
        due("bytes of extent " + i, bytes, () -> d.extent(i, 3));
    }

    // Terms

    private static void blocksOfTheDisk() {
        for (int blocks : new int[] {8, 9, 127, 128}) {
            ExtentDisk d = new ExtentDisk(blocks);
            fillAll(d, 4096 * (blocks - 2));
            due("the largest extent of " + blocks + " blocks", blocks - 1, () -> d.change(1, 1, 0));
            dueExtent(d, 0, 1, 2, 4096 * (blocks - 2));
            due("blocks that are left of " + blocks, 0, () -> d.count(1));
            ExtentDisk more = new ExtentDisk(blocks);
            fillAll(more, 4096 * (blocks - 2) + 1);
            due("one byte more on " + blocks + " blocks", FULL, () -> more.change(1, 1, 0));
        }
    }

    private static void manifestsBlocks() {
        ExtentDisk d = new ExtentDisk(8);
        for (int i = 0; i < 6; i++) {
            int label = i;
            d.fill(10 * i, 4096);
            due("extent " + i, 2, () -> d.change(label, 1, 0));
            dueExtent(d, i, i, 2 + i, 4096);
        }
        d.fill(0, 1);
        due("blocks 0 and 1 take no extent", FULL, () -> d.change(6, 1, 0));
        d.drop();
        for (int turn = 0; turn < 4; turn++) {
            due("a manifest more", 1, () -> d.change(0, 1, 0));
            for (int i = 0; i < 6; i++) {
                dueBytes(d, i, 10 * i, 4096);
            }
        }
    }

    private static void blocksThatBytesNeed() {
        int[] sizes = {1, 4095, 4096, 4097, 8191, 8192, 8193};
        int[] blocks = {1, 1, 1, 2, 2, 2, 3};
        for (int i = 0; i < sizes.length; i++) {
            int size = sizes[i];
            ExtentDisk d = new ExtentDisk(8);
            d.fill(5, size);
            due("a change of " + size + " bytes", blocks[i] + 1, () -> d.change(1, 1, 0));
            due("blocks of " + size + " bytes", blocks[i], () -> d.extent(0, 2));
            due("bytes of " + size + " bytes", size, () -> d.extent(0, 3));
            due("blocks left behind " + size + " bytes", 6 - blocks[i], () -> d.count(1));
            dueBytes(d, 0, 5, size);
        }
    }

    private static void asManyExtentsAsThereIsRoomFor() {
        ExtentDisk d = new ExtentDisk(128);
        for (int i = 0; i < 126; i++) {
            int label = i;
            d.fill(i, 1);
            due("extent " + i, 2, () -> d.change(label, 1, 0));
        }
        d.fill(0, 1);
        due("an extent more than there are blocks", FULL, () -> d.change(126, 1, 0));
        due("recover with a full disk", 126, d::recover);
        dueExtent(d, 0, 0, 2, 1);
        dueExtent(d, 125, 125, 127, 1);
        due("byte of extent 0", 0, () -> d.byteAt(0, 0));
        due("byte of extent 125", 125, () -> d.byteAt(125, 0));
        due("extent behind the last", ARGUMENT, () -> d.extent(126, 0));
        due("all go", 1, () -> d.change(0, 0, 125));
        due("a disk that was full is empty", 126, () -> d.count(1));
        due("recover with an empty disk", 0, d::recover);
    }

    /** The most that one manifest ever has to say: none of it may lie where other parts of it do. */
    private static void oneBlockSaysAll() {
        ExtentDisk d = new ExtentDisk(128);
        for (int i = 0; i < 126; i++) {
            d.fill(i, 1);
            d.change(-1 - i, 1, 0);
        }
        for (int i = 0; i < 24; i++) {
            d.wish(i, -1000 - i);
        }
        due("the manifest", 1, () -> d.change(0, 1, 0));
        due("recover", 126, d::recover);
        due("changes", 127, () -> d.count(3));
        for (int i = 0; i < 24; i++) {
            int at = i;
            due("note " + i, -1000 - at, () -> d.note(at));
        }
        for (int i = 0; i < 126; i++) {
            int at = i;
            due("label " + i, -1 - at, () -> d.extent(at, 0));
        }
        due("the last one's block", 127, () -> d.extent(125, 1));
        due("the last one's byte", 125, () -> d.byteAt(125, 0));
    }

    private static void numbersInOrder() {
        int[][] left = {{1, 2, 3}, {0, 2, 3}, {0, 1, 3}, {0, 1, 2}};
        for (int gone = 0; gone < 4; gone++) {
            int label = gone;
            ExtentDisk d = withExtents(8, 1, 1, 1, 1);
            due("label " + gone + " goes", 1, () -> d.change(9, label, label));
            due("three are left", 3, () -> d.count(0));
            for (int i = 0; i < 3; i++) {
                dueExtent(d, i, left[gone][i], 2 + left[gone][i], 1);
                dueBytes(d, i, left[gone][i], 1);
            }
            due("number 3 is none", ARGUMENT, () -> d.extent(3, 0));
            d.fill(70, 1);
            due("a new one", 2, () -> d.change(-9, 1, 0));
            dueExtent(d, 3, -9, 2 + gone, 1);
            due("recover", 4, d::recover);
            dueExtent(d, 3, -9, 2 + gone, 1);
        }
    }

    private static void numbersWhenAllGo() {
        ExtentDisk d = withExtents(8, 1, 1);
        due("all go", 1, () -> d.change(9, 0, 1));
        due("number 0 is none", ARGUMENT, () -> d.extent(0, 0));
        d.fill(3, 1);
        due("a new one", 2, () -> d.change(7, 1, 0));
        dueExtent(d, 0, 7, 2, 1);
    }

    private static void notesAtFirst() {
        ExtentDisk d = new ExtentDisk(8);
        for (int i = 0; i < 24; i++) {
            int at = i;
            due("note " + i + " at first", 0, () -> d.note(at));
        }
        due("note 24", ARGUMENT, () -> d.note(24));
    }

    private static void notesAreInts() {
        ExtentDisk d = new ExtentDisk(8);
        int[] ints = {LOWEST, HIGHEST, -1, 1, 0x80FF7F01, 256, 65536, 0x01000000};
        for (int i = 0; i < 24; i++) {
            d.wish(i, ints[i % ints.length]);
        }
        d.change(0, 1, 0);
        d.recover();
        for (int i = 0; i < 24; i++) {
            int at = i;
            due("note " + i, ints[i % ints.length], () -> d.note(at));
        }
    }

    private static void labelsAreInts() {
        int[] ints = {LOWEST, HIGHEST, -1, 1, 0x80FF7F01, 256};
        ExtentDisk d = new ExtentDisk(8);
        for (int label : ints) {
            d.fill(1, 1);
            d.change(label, 1, 0);
        }
        d.recover();
        for (int i = 0; i < ints.length; i++) {
            int at = i;
            due("label " + i, ints[i], () -> d.extent(at, 0));
        }
    }

    private static void mostBytesOfTheTape() {
        int[][] sizes = {{LOWEST, 8}, {7, 8}, {8, 8}, {9, 9}, {127, 127}, {128, 128}, {129, 128}, {HIGHEST, 128}};
        for (int[] size : sizes) {
            ExtentDisk d = new ExtentDisk(size[0]);
            int most = 4096 * size[1];
            fillAll(d, most - 1);
            due("two bytes more than there is room for", STATE, () -> d.put(0, 2));
            due("the tape's last byte", most, () -> d.put(0, 1));
            due("a byte more by put", STATE, () -> d.put(0, 1));
            due("a byte more by fill", STATE, () -> d.fill(0, 1));
            due("the tape is as long as it may be", most, () -> d.count(2));
            due("a full tape is longer than the disk's room", FULL, () -> d.change(0, 1, 0));
            due("a full tape is dropped", most, d::drop);
        }
    }

    private static void wishesAtFirstAndAfterRecovery() {
        ExtentDisk d = new ExtentDisk(8);
        for (int i = 0; i < 24; i++) {
            int at = i;
            due("wish " + i + " at first", 0, () -> d.wish(at, at + 1));
        }
        d.change(0, 1, 0);
        for (int i = 0; i < 24; i++) {
            d.wish(i, -i);
        }
        d.recover();
        for (int i = 0; i < 24; i++) {
            int at = i;
            due("wish " + i + " after recovery", at + 1, () -> d.wish(at, -at));
        }
        d.crash(0);
        d.recover();
        for (int i = 0; i < 24; i++) {
            int at = i;
            due("wish " + i + " after a crash", at + 1, () -> d.wish(at, 0));
        }
    }

    private static void emptyTapeMakesNoExtent() {
        ExtentDisk d = new ExtentDisk(8);
        d.wish(4, 44);
        due("a change with an empty tape", 1, () -> d.change(1, 1, 0));
        due("no extent came", 0, () -> d.count(0));
        due("no block was taken", 6, () -> d.count(1));
        due("the change is there", 1, () -> d.count(3));
        due("the wish is the note", 44, () -> d.note(4));
        d.fill(1, 5);
        d.drop();
        due("a change with a dropped tape", 1, () -> d.change(1, 1, 0));
        due("no extent came still", 0, () -> d.count(0));
    }

    private static void tapeIsEmptyBehindAChange() {
        ExtentDisk d = new ExtentDisk(8);
        d.fill(1, 5);
        d.change(1, 1, 0);
        due("the tape behind a change", 0, () -> d.count(2));
        due("the next change has none of it", 1, () -> d.change(2, 1, 0));
        due("one extent", 1, () -> d.count(0));
    }

    private static void asFarInFrontAsItCan() {
        ExtentDisk d = withExtents(16, 1, 8192, 1, 12288, 1, 1);
        d.change(0, 1, 1);
        d.change(0, 3, 3);
        d.fill(1, 12288);
        due("three blocks pass by a row of two", 4, () -> d.change(10, 1, 0));
        dueExtent(d, 4, 10, 6, 12288);
        d.fill(2, 4097);
        due("two blocks fit a row of two", 3, () -> d.change(11, 1, 0));
        dueExtent(d, 5, 11, 3, 4097);
        d.fill(3, 4096 * 5);
        due("five blocks to the disk's end", 6, () -> d.change(12, 1, 0));
        dueExtent(d, 6, 12, 11, 4096 * 5);
        due("no block is free", 0, () -> d.count(1));
        due("no block is in two", 0, d::doubled);
    }

    private static void rowAtTheEnd() {
        ExtentDisk d = withExtents(8, 8192, 4096);
        d.fill(1, 12289);
        due("four blocks where three are free at the end", FULL, () -> d.change(5, 1, 0));
        d.drop();
        d.fill(1, 12288);
        due("three blocks where three are free at the end", 4, () -> d.change(5, 1, 0));
        dueExtent(d, 2, 5, 5, 12288);
        dueBytes(d, 2, 1, 12288);
    }

    private static void blocksOfThoseThatGoAreNotFree() {
        ExtentDisk d = withExtents(8, 8192, 4096);
        d.fill(30, 4096);
        due("the place of one that goes is left alone", 2, () -> d.change(5, 0, 0));
        dueExtent(d, 0, 1, 4, 4096);
        dueExtent(d, 1, 5, 5, 4096);
        d.fill(40, 8192);
        due("it is free for the change behind it", 3, () -> d.change(6, 1, 0));
        dueExtent(d, 2, 6, 2, 8192);
        ExtentDisk full = withExtents(8, 4096 * 6);
        full.fill(1, 1);
        due("all go, and still no block is free", FULL, () -> full.change(5, LOWEST, HIGHEST));
    }

    // Power

    private static void lastWriteCuts(int size, int power, int answer, int there) {
        ExtentDisk d = withExtents(8, 4096);
        String with = size + " bytes, power for " + power + ": ";
        if (size > 0) {
            d.fill(9, size);
        }
        d.wish(3, 33);
        d.crash(power);
        due(with + "change", answer, () -> d.change(5, 0, 0));
        due(with + "isDown", answer == CUT ? 1 : 0, () -> isDown(d));
        due(with + "writes", 2 + Math.min(power, (size + 4095) / 4096 + 1), d::writes);
        int extents = there == 0 ? 1 : size > 0 ? 1 : 0;
        due(with + "recover", extents, d::recover);
        due(with + "changes that are there", 1 + there, () -> d.count(3));
        due(with + "note", 33 * there, () -> d.note(3));
        if (extents == 1 && there == 0) {
            dueExtent(d, 0, 0, 2, 4096);
            dueBytes(d, 0, 0, 4096);
        }
        if (extents == 1 && there == 1) {
            dueExtent(d, 0, 5, 3, size);
            dueBytes(d, 0, 9, size);
        }
    }

    private static void cutAtEachBlock() {
        lastWriteCuts(0, 1, CUT, 1);
        lastWriteCuts(0, 2, 1, 1);
        lastWriteCuts(1, 1, CUT, 0);
        lastWriteCuts(1, 2, CUT, 1);
        lastWriteCuts(1, 3, 2, 1);
        for (int power = 1; power <= 3; power++) {
            lastWriteCuts(12288, power, CUT, 0);
        }
        lastWriteCuts(12288, 4, CUT, 1);
        lastWriteCuts(12288, 5, 4, 1);
    }

    private static void goneUntilRecovery() {
        ExtentDisk d = withExtents(8, 10);
        d.wish(0, 5);
        d.change(0, 1, 0);
        d.wish(0, 6);
        d.fill(0, 20);
        d.crash(0);
        due("the store is down", 1, () -> isDown(d));
        due("an extent when down", ARGUMENT, () -> d.extent(0, 0));
        due("a byte when down", ARGUMENT, () -> d.byteAt(0, 0));
        due("a note when down", STATE, () -> d.note(0));
        due("a wish when down", STATE, () -> d.wish(0, 0));
        due("the tape when down", STATE, d::drop);
        due("recover", 1, d::recover);
        due("the store is up", 0, () -> isDown(d));
        due("the extent is back", 10, () -> d.extent(0, 3));
        due("its last byte is back", 9, () -> d.byteAt(0, 9));
        due("the note is back", 5, () -> d.note(0));
        due("the wish is the note", 5, () -> d.wish(0, 5));
        due("the tape is empty", 0, d::drop);
    }

    // The constants

    private static void constants() {
        due("NONE", -1, () -> ExtentDisk.NONE);
        due("FULL", -2, () -> ExtentDisk.FULL);
        due("CUT", -3, () -> ExtentDisk.CUT);
    }

    /** Labels 0, 1 and 2 in blocks 2, 4 and 6 of eight: three blocks are free, no two of them in a row. */
    private static ExtentDisk withHoles() {
        ExtentDisk d = withExtents(8, 100, 1, 200, 1, 300, 1);
        d.change(0, 1, 1);
        d.change(0, 3, 3);
        d.change(0, 5, 5);
        return d;
    }

    private static void fullWithoutARow() {
        ExtentDisk d = withHoles();
        due("three blocks are free", 3, () -> d.count(1));
        d.fill(0, 4097);
        due("no row of two", FULL, () -> d.change(9, 1, 0));
        d.drop();
        d.fill(0, 4096);
        due("a row of one", 2, () -> d.change(9, 1, 0));
        dueExtent(d, 3, 9, 3, 4096);
    }

    private static void fullChangesNothing() {
        ExtentDisk d = withHoles();
        d.fill(50, 4097);
        d.wish(7, 70);
        due("a change with no room", FULL, () -> d.change(9, LOWEST, HIGHEST));
        due("none went", 3, () -> d.count(0));
        dueExtent(d, 0, 0, 2, 100);
        dueExtent(d, 1, 2, 4, 200);
        dueExtent(d, 2, 4, 6, 300);
        due("no block was taken or given", 3, () -> d.count(1));
        due("no change is there", 9, () -> d.count(3));
        due("the note is as it was", 0, () -> d.note(7));
        due("the wish stays", 70, () -> d.wish(7, 70));
        due("nothing was written", 15, d::writes);
        due("recover finds the same", 3, d::recover);
        due("and as many changes", 9, () -> d.count(3));
    }

    /** Only its length can be asked: no later change has more room, as long as the tape has bytes. */
    private static void fullLeavesTheTape() {
        ExtentDisk d = withHoles();
        d.fill(50, 4097);
        due("a change with no room", FULL, () -> d.change(9, 1, 0));
        due("the tape stays", 4097, () -> d.count(2));
        due("the same again", FULL, () -> d.change(9, LOWEST, HIGHEST));
        due("the tape stays again", 4098, () -> d.put(99, 1));
        due("the tape is dropped", 4098, d::drop);
    }

    private static void fullIsNotCut() {
        ExtentDisk d = withHoles();
        d.fill(50, 4097);
        d.crash(1);
        for (int i = 0; i < 3; i++) {
            due("a change with no room takes no power", FULL, () -> d.change(9, 1, 0));
            due("the power is on", 0, () -> isDown(d));
        }
        d.drop();
        due("the next block that is written is the last", CUT, () -> d.change(9, 1, 0));
        due("the power is off", 1, () -> isDown(d));
    }

    // Promise 1

    private static void sizes(int[] asked, int counted) {
        for (int blocks : asked) {
            ExtentDisk d = new ExtentDisk(blocks);
            due("free blocks of new ExtentDisk(" + blocks + ")", counted - 2, () -> d.count(1));
            fillAll(d, 4096 * counted);
            due("tape of new ExtentDisk(" + blocks + ")", STATE, () -> d.put(0, 1));
        }
    }

    private static void nothingOnIt() {
        for (int blocks : new int[] {LOWEST, 8, 128, HIGHEST}) {
            ExtentDisk d = new ExtentDisk(blocks);
            due("extents", 0, () -> d.count(0));
            due("bytes of the tape", 0, () -> d.count(2));
            due("changes", 0, () -> d.count(3));
            due("writes", 0, d::writes);
            due("isDown", 0, () -> isDown(d));
            due("doubled", 0, d::doubled);
            due("extent 0", ARGUMENT, () -> d.extent(0, 0));
            due("byte 0 of extent 0", ARGUMENT, () -> d.byteAt(0, 0));
            due("drop", 0, d::drop);
            due("recover", 0, d::recover);
            due("writes behind recovery", 0, d::writes);
        }
    }

    private static void objectsShareNothing() {
        ExtentDisk one = withExtents(8, 5000);
        ExtentDisk two = new ExtentDisk(8);
        one.wish(0, 1);
        one.fill(0, 9);
        due("extents of another", 0, () -> two.count(0));
        due("tape of another", 0, () -> two.count(2));
        due("wish of another", 0, () -> two.wish(0, 0));
        due("writes of another", 0, two::writes);
        one.crash(0);
        due("power of another", 0, () -> isDown(two));
    }

    // Promises 2 and 3

    private static void putOfEachLength() {
        long[] values = {0x0102030405060708L, -1L, 0L, Long.MIN_VALUE, Long.MAX_VALUE, 0x80FF007F81FE017EL};
        for (long v : values) {
            ExtentDisk d = new ExtentDisk(8);
            int length = 0;
            for (int n = 1; n <= 8; n++) {
                int bytes = n;
                length += n;
                due("put(" + v + ", " + n + ")", length, () -> d.put(v, bytes));
            }
            d.change(0, 1, 0);
            int at = 0;
            for (int n = 1; n <= 8; n++) {
                for (int low = n - 1; low >= 0; low--) {
                    int k = at++;
                    due("byte " + k + " of " + v, v >>> (8 * low) & 255, () -> d.byteAt(0, k));
                }
            }
        }
    }

    private static void putOverABlocksEdge() {
        ExtentDisk d = new ExtentDisk(8);
        d.fill(0, 4092);
        due("put over a block's edge", 4100, () -> d.put(0x1112131415161718L, 8));
        due("two blocks and a manifest", 3, () -> d.change(0, 1, 0));
        for (int k = 0; k < 8; k++) {
            int at = k;
            due("byte " + (4092 + k), 0x11 + k, () -> d.byteAt(0, 4092 + at));
        }
    }

    private static void fillWraps(int b, int n) {
        ExtentDisk d = new ExtentDisk(32);
        due("fill(" + b + ", " + n + ")", n, () -> d.fill(b, n));
        d.change(0, 1, 0);
        for (int k = 0; k < Math.min(n, 300); k++) {
            int at = k;
            due("byte " + k + " of fill(" + b + ", " + n + ")", (b + k) & 255, () -> d.byteAt(0, at));
        }
        due("last byte of fill(" + b + ", " + n + ")", (b + n - 1) & 255, () -> d.byteAt(0, n - 1));
    }

    private static void fillsLowestEightBits() {
        fillWraps(0, 1);
        fillWraps(255, 2);
        fillWraps(250, 300);
        fillWraps(256, 2);
        fillWraps(-1, 2);
        fillWraps(-128, 300);
        fillWraps(HIGHEST, 300);
        fillWraps(LOWEST, 2);
        fillWraps(200, 100000);
    }

    private static void fillOfEachBound() {
        ExtentDisk d = new ExtentDisk(128);
        due("fill of 0 bytes", ARGUMENT, () -> d.fill(0, 0));
        due("fill of 1 byte", 1, () -> d.fill(0, 1));
        due("fill of 100001 bytes", ARGUMENT, () -> d.fill(0, 100001));
        due("fill of 100000 bytes", 100001, () -> d.fill(0, 100000));
        ExtentDisk small = new ExtentDisk(24);
        due("100000 bytes on a tape of 98304", STATE, () -> small.fill(0, 100000));
        due("100001 bytes on a tape of 98304", ARGUMENT, () -> small.fill(0, 100001));
        due("98304 bytes on a tape of 98304", 98304, () -> small.fill(0, 98304));
    }

    // Promise 4

    private static void dropOfAnEmptyTape() {
        ExtentDisk d = new ExtentDisk(8);
        due("drop of an empty tape", 0, d::drop);
        d.fill(0, 32768);
        due("drop of a full tape", 32768, d::drop);
        due("drop again", 0, d::drop);
        d.put(7, 1);
        due("drop of one byte", 1, d::drop);
        due("a full tape has room behind drop", 32768, () -> d.fill(0, 32768));
    }

    // Promises 5 and 6

    private static void wishOfEachBound() {
        ExtentDisk d = new ExtentDisk(8);
        due("wish -1", ARGUMENT, () -> d.wish(-1, 1));
        due("wish 0", 0, () -> d.wish(0, LOWEST));
        due("wish 0 again", LOWEST, () -> d.wish(0, 1));
        due("wish 23", 0, () -> d.wish(23, HIGHEST));
        due("wish 23 again", HIGHEST, () -> d.wish(23, 1));
        due("wish 24", ARGUMENT, () -> d.wish(24, 1));
        for (int i = 1; i < 23; i++) {
            int at = i;
            due("wish " + i + " is another's", 0, () -> d.wish(at, 0));
        }
    }

    private static void noteOfEachBound() {
        ExtentDisk d = new ExtentDisk(8);
        d.wish(0, 100);
        d.wish(23, 123);
        due("note 0 before the change", 0, () -> d.note(0));
        due("note 23 before the change", 0, () -> d.note(23));
        d.change(0, 1, 0);
        due("note -1", ARGUMENT, () -> d.note(-1));
        due("note 0", 100, () -> d.note(0));
        due("note 1", 0, () -> d.note(1));
        due("note 22", 0, () -> d.note(22));
        due("note 23", 123, () -> d.note(23));
        due("note 24", ARGUMENT, () -> d.note(24));
    }

    // Promise 7

    private static void goes(int from, int to, int... left) {
        ExtentDisk d = new ExtentDisk(8);
        for (int label : new int[] {-5, 0, 5, 5, HIGHEST, LOWEST}) {
            d.fill(1, 1);
            d.change(label, 1, 0);
        }
        due("change(9, " + from + ", " + to + ")", 1, () -> d.change(9, from, to));
        due("left by " + from + " .. " + to, left.length, () -> d.count(0));
        for (int i = 0; i < left.length; i++) {
            int at = i;
            due("label " + i + " left by " + from + " .. " + to, left[i], () -> d.extent(at, 0));
        }
        due("free behind " + from + " .. " + to, 6 - left.length, () -> d.count(1));
    }

    private static void labelsThatGo() {
        goes(5, 5, -5, 0, HIGHEST, LOWEST);
        goes(-5, 0, 5, 5, HIGHEST, LOWEST);
        goes(-4, -1, -5, 0, 5, 5, HIGHEST, LOWEST);
        goes(1, 4, -5, 0, 5, 5, HIGHEST, LOWEST);
        goes(-4, 4, -5, 5, 5, HIGHEST, LOWEST);
        goes(LOWEST, LOWEST, -5, 0, 5, 5, HIGHEST);
        goes(HIGHEST, HIGHEST, -5, 0, 5, 5, LOWEST);
        goes(LOWEST + 1, HIGHEST - 1, HIGHEST, LOWEST);
        goes(LOWEST, HIGHEST);
    }

    private static void noneGoIfFromIsGreater() {
        goes(1, 0, -5, 0, 5, 5, HIGHEST, LOWEST);
        goes(6, 5, -5, 0, 5, 5, HIGHEST, LOWEST);
        goes(5, -5, -5, 0, 5, 5, HIGHEST, LOWEST);
        goes(HIGHEST, LOWEST, -5, 0, 5, 5, HIGHEST, LOWEST);
    }

    private static void newOneStays() {
        ExtentDisk d = withExtents(8, 1, 1);
        d.fill(9, 1);
        due("a label among those that go", 2, () -> d.change(1, LOWEST, HIGHEST));
        due("the new one alone is left", 1, () -> d.count(0));
        dueExtent(d, 0, 1, 4, 1);
        dueBytes(d, 0, 9, 1);
    }

    // Promises 8 and 9

    private static void extentOfEachBound() {
        ExtentDisk d = withExtents(8, 1, 4097);
        due("extent -1", ARGUMENT, () -> d.extent(-1, 0));
        dueExtent(d, 0, 0, 2, 1);
        dueExtent(d, 1, 1, 3, 4097);
        due("extent 2", ARGUMENT, () -> d.extent(2, 0));
        due("what -1", ARGUMENT, () -> d.extent(0, -1));
        due("what 4", ARGUMENT, () -> d.extent(0, 4));
        due("both wrong", ARGUMENT, () -> d.extent(2, 4));
        d.change(0, 1, 1);
        due("the number of one that went", ARGUMENT, () -> d.extent(1, 0));
    }

    private static void byteOfEachBound() {
        ExtentDisk d = withExtents(8, 1, 4096, 4097);
        int[] sizes = {1, 4096, 4097};
        for (int i = 0; i < 3; i++) {
            int at = i;
            due("byte -1", ARGUMENT, () -> d.byteAt(at, -1));
            dueBytes(d, i, i, sizes[i]);
            due("the lowest number", ARGUMENT, () -> d.byteAt(at, LOWEST));
            due("the highest number", ARGUMENT, () -> d.byteAt(at, HIGHEST));
        }
        due("extent -1", ARGUMENT, () -> d.byteAt(-1, 0));
        due("extent 3", ARGUMENT, () -> d.byteAt(3, 0));
    }

    private static void bytesHaveNoSign() {
        ExtentDisk d = withExtents(8, 256);
        for (int k : new int[] {0, 127, 128, 255}) {
            due("byte " + k, k, () -> d.byteAt(0, k));
        }
    }

    private static void bytesOfTheTapeAreNotOnTheDisk() {
        ExtentDisk d = withExtents(8, 10);
        d.fill(100, 10);
        due("a byte of the extent", 0, () -> d.byteAt(0, 0));
        d.crash(1);
        d.change(5, 0, 0);
        d.recover();
        due("a byte behind a change that was cut", 0, () -> d.byteAt(0, 0));
        due("bytes behind a change that was cut", 10, () -> d.extent(0, 3));
    }

    // Promise 10

    private static void crashOfEachBound() {
        ExtentDisk d = new ExtentDisk(8);
        due("crash(-2)", ARGUMENT, () -> crash(d, -2));
        due("crash(NONE)", 0, () -> crash(d, -1));
        due("crash(1001)", ARGUMENT, () -> crash(d, 1001));
        due("crash(1000)", 0, () -> crash(d, 1000));
        due("crash(1)", 0, () -> crash(d, 1));
        due("not yet", 0, () -> isDown(d));
        due("crash(0)", 0, () -> crash(d, 0));
        due("at once", 1, () -> isDown(d));
        due("nothing was written", 0, d::writes);
    }

    private static void powerForAThousand() {
        ExtentDisk d = new ExtentDisk(128);
        d.crash(1000);
        for (int i = 0; i < 16; i++) {
            int label = i;
            fillAll(d, 60 * 4096);
            due("61 blocks", 61, () -> d.change(label, label - 1, label - 1));
        }
        for (int i = 976; i < 999; i++) {
            due("block " + (i + 1), 1, () -> d.change(0, 1, 0));
        }
        due("block 1000", CUT, () -> d.change(0, 1, 0));
        due("writes", 1000, d::writes);
        due("recover", 1, d::recover);
        due("changes", 40, () -> d.count(3));
    }

    private static void laterWordCounts() {
        for (int before : new int[] {1, 2, 1000}) {
            ExtentDisk d = new ExtentDisk(8);
            d.crash(before);
            d.crash(ExtentDisk.NONE);
            due("NONE behind " + before, 1, () -> d.change(0, 1, 0));
            d.crash(before);
            d.crash(3);
            due("3 behind " + before, 1, () -> d.change(0, 1, 0));
            due("3 behind " + before + " again", 1, () -> d.change(0, 1, 0));
            d.crash(1);
            due("1 behind what is left of 3", CUT, () -> d.change(0, 1, 0));
        }
        ExtentDisk d = new ExtentDisk(8);
        d.crash(1000);
        d.crash(0);
        due("0 behind 1000", 1, () -> isDown(d));
    }

    private static void noneMeansNever() {
        ExtentDisk d = new ExtentDisk(8);
        d.crash(ExtentDisk.NONE);
        for (int i = 0; i < 100; i++) {
            due("change " + i, 1, () -> d.change(0, 1, 0));
        }
        due("the power is on", 0, () -> isDown(d));
    }

    private static void powerCountsBlocksAlone() {
        ExtentDisk d = withExtents(8, 10);
        d.crash(1);
        d.put(1, 8);
        d.fill(1, 32760);
        d.drop();
        d.wish(0, 1);
        d.note(0);
        d.extent(0, 0);
        d.byteAt(0, 0);
        d.writes();
        d.count(1);
        d.doubled();
        due("no other call takes power", 0, () -> isDown(d));
        due("a change does", CUT, () -> d.change(0, 1, 0));
    }

    // Promise 11

    private static void recoverWhenNotDown() {
        ExtentDisk d = withExtents(8, 10);
        d.fill(0, 20);
        d.wish(5, 55);
        d.crash(1);
        due("recover", 1, d::recover);
        due("the tape is empty", 0, () -> d.count(2));
        due("the wish is the note", 0, () -> d.wish(5, 0));
        due("what crash said is forgotten", 1, () -> d.change(0, 1, 0));
        due("the power is on", 0, () -> isDown(d));
        dueExtent(d, 0, 0, 2, 10);
        dueBytes(d, 0, 0, 10);
    }

    private static void recoverOfADiskWithNothing() {
        ExtentDisk d = new ExtentDisk(8);
        due("recover of a new disk", 0, d::recover);
        d.crash(0);
        due("recover of a new disk that was down", 0, d::recover);
        due("the power is on", 0, () -> isDown(d));
        d.fill(0, 1);
        d.crash(1);
        due("the first change is cut", CUT, () -> d.change(0, 1, 0));
        due("recover of a disk without a manifest", 0, d::recover);
        due("changes", 0, () -> d.count(3));
        due("free blocks", 6, () -> d.count(1));
        due("writes", 1, d::writes);
    }

    private static void recoverForgetsTheCrash() {
        ExtentDisk d = new ExtentDisk(8);
        d.fill(0, 4097);
        d.crash(1);
        due("cut", CUT, () -> d.change(0, 1, 0));
        d.recover();
        for (int i = 0; i < 10; i++) {
            due("a change behind recovery", 1, () -> d.change(0, 1, 0));
        }
        d.crash(3);
        due("what crash says behind recovery counts", 0, () -> isDown(d));
        d.change(0, 1, 0);
        d.change(0, 1, 0);
        due("the third block", CUT, () -> d.change(0, 1, 0));
    }

    private static void recoverAgainAndAgain() {
        ExtentDisk d = withExtents(8, 10, 5000);
        for (int i = 0; i < 5; i++) {
            due("recover " + i, 2, d::recover);
            due("changes", 2, () -> d.count(3));
            due("writes", 5, d::writes);
        }
        for (int i = 0; i < 5; i++) {
            d.crash(0);
            due("recover " + i + " behind a crash", 2, d::recover);
            dueBytes(d, 1, 1, 5000);
        }
    }

    // Promises 12 to 15

    private static void writesWhenDown() {
        ExtentDisk d = new ExtentDisk(8);
        d.fill(0, 8192);
        d.crash(2);
        d.change(0, 1, 0);
        due("isDown", 1, () -> isDown(d));
        due("writes when down", 2, d::writes);
        due("a refused change", STATE, () -> d.change(0, 1, 0));
        due("writes behind it", 2, d::writes);
        d.recover();
        due("isDown behind recovery", 0, () -> isDown(d));
        due("writes behind recovery", 2, d::writes);
    }

    private static void countOfEachBound() {
        ExtentDisk d = withExtents(8, 1, 4097);
        d.fill(0, 33);
        due("count(-1)", ARGUMENT, () -> d.count(-1));
        due("count(0)", 2, () -> d.count(0));
        due("count(1)", 3, () -> d.count(1));
        due("count(2)", 33, () -> d.count(2));
        due("count(3)", 2, () -> d.count(3));
        due("count(4)", ARGUMENT, () -> d.count(4));
    }

    private static void freeBlocksFromAllToNone() {
        ExtentDisk d = new ExtentDisk(8);
        for (int i = 0; i < 6; i++) {
            int label = i;
            due("free blocks behind " + i + " extents", 6 - label, () -> d.count(1));
            d.fill(0, 4096);
            d.change(label, 1, 0);
        }
        due("a full disk", 0, () -> d.count(1));
        for (int i = 0; i < 6; i++) {
            int label = i;
            d.change(0, label, label);
            due("free blocks when " + (i + 1) + " went", 1 + label, () -> d.count(1));
        }
    }

    private static void doubledIsNone() {
        ExtentDisk d = withExtents(8, 4096, 4096, 4096, 4096, 4096, 4096);
        due("a full disk", 0, d::doubled);
        d.change(0, 2, 3);
        due("a disk with a hole", 0, d::doubled);
        d.fill(0, 8192);
        d.crash(2);
        d.change(9, 0, 0);
        d.recover();
        due("behind a change that was cut", 0, d::doubled);
        d.fill(0, 8192);
        d.change(9, 0, 0);
        due("where a change was cut before", 0, d::doubled);
        d.change(0, LOWEST, HIGHEST);
        due("an empty disk", 0, d::doubled);
    }

    private static void allOfFiveHundredAndTwelve() {
        ExtentDisk d = new ExtentDisk(8);
        for (int i = 1; i <= 511; i++) {
            due("call " + i, 1, () -> d.change(0, 1, 0));
        }
        due("call 512", 511, () -> d.count(3));
        ExtentDisk other = new ExtentDisk(8);
        for (int i = 1; i <= 510; i++) {
            other.change(0, 1, 0);
        }
        due("call 511", 0, other::recover);
        due("call 512 behind a recovery", 510, () -> other.count(3));
    }

    private static void terms() {
        sentence("THE DISK has blocks of 4096 bytes, 8 to 128 of them", BoundaryTest::blocksOfTheDisk);
        sentence("blocks 0 and 1 are for MANIFESTS, others for EXTENTS", BoundaryTest::manifestsBlocks);
        sentence("bytes, 1 at least, in as many blocks as they need", BoundaryTest::blocksThatBytesNeed);
        sentence("There are at most 200 extents", BoundaryTest::asManyExtentsAsThereIsRoomFor);
        sentence("then a manifest, one block", BoundaryTest::oneBlockSaysAll);
        sentence("numbered 0, 1, .. in the order in which they came (those that go leave no numbers)", BoundaryTest::numbersInOrder);
        sentence("those that go leave no numbers: all go", BoundaryTest::numbersWhenAllGo);
        sentence("24 NOTES (ints), all 0 at first", BoundaryTest::notesAtFirst);
        sentence("24 NOTES (ints)", BoundaryTest::notesAreInts);
        sentence("An extent has a LABEL", BoundaryTest::labelsAreInts);
        sentence("THE TAPE holds .. at most 4096 times the blocks of the disk", BoundaryTest::mostBytesOfTheTape);
        sentence("WISHES ..: at first, and after recovery, what they are", BoundaryTest::wishesAtFirstAndAfterRecovery);
        sentence("makes the tape (if it has bytes) one extent more, and the wishes the notes", BoundaryTest::emptyTapeMakesNoExtent);
        sentence("makes the tape .. one extent more: THE TAPE holds the bytes of the next", BoundaryTest::tapeIsEmptyBehindAChange);
        sentence("The new extent lies as far in front as it can, behind block 1", BoundaryTest::asFarInFrontAsItCan);
        sentence("as far in front as it can: at the disk's end", BoundaryTest::rowAtTheEnd);
        sentence("among blocks that are in no extent that was there before the change", BoundaryTest::blocksOfThoseThatGoAreNotFree);
        sentence("A change that writes the last of them is CUT; it is there after recovery just when its manifest was written",
                BoundaryTest::cutAtEachBlock);
        sentence("When the power failed, tape, wishes, extents and notes are gone until recovery, and the store is DOWN",
                BoundaryTest::goneUntilRecovery);
        sentence("The constants", BoundaryTest::constants);
        sentence("FULL: no row of free blocks that is long enough", BoundaryTest::fullWithoutARow);
        sentence("FULL: nothing is changed or written", BoundaryTest::fullChangesNothing);
        sentence("FULL: the tape stays", BoundaryTest::fullLeavesTheTape);
        sentence("CUT: The power failed (it does not where FULL writes nothing)", BoundaryTest::fullIsNotCut);
    }

    private static void promises1To7() {
        sentence("1: below 8 counts as 8", () -> sizes(new int[] {LOWEST, -1, 0, 1, 7, 8}, 8));
        sentence("1: above 128 as 128", () -> sizes(new int[] {128, 129, 1000, HIGHEST}, 128));
        sentence("1: so many blocks", () -> sizes(new int[] {9}, 9));
        sentence("1: nothing on it, nothing written", BoundaryTest::nothingOnIt);
        sentence("1: a new object", BoundaryTest::objectsShareNothing);
        sentence("2: The lowest n bytes of v, the highest of them first", BoundaryTest::putOfEachLength);
        sentence("2: come behind the tape", BoundaryTest::putOverABlocksEdge);
        sentence("3: b, b + 1, and so on (their lowest eight bits)", BoundaryTest::fillsLowestEightBits);
        sentence("3: Illegal argument: n is not 1 .. 100000; illegal state", BoundaryTest::fillOfEachBound);
        sentence("4: The tape is empty then: how many bytes it had", BoundaryTest::dropOfAnEmptyTape);
        sentence("5: Wish i becomes v: what it was. Illegal argument: i is not 0 .. 23", BoundaryTest::wishOfEachBound);
        sentence("6: Note i. Illegal argument: i is not 0 .. 23", BoundaryTest::noteOfEachBound);
        sentence("7: extents with labels from .. to go", BoundaryTest::labelsThatGo);
        sentence("7: none if from is greater than to", BoundaryTest::noneGoIfFromIsGreater);
        sentence("7: the tape becomes an extent with a label", BoundaryTest::newOneStays);
    }

    private static void promises8To15() {
        sentence("8: Illegal argument: also if what is none of these", BoundaryTest::extentOfEachBound);
        sentence("9: Byte k of extent i", BoundaryTest::byteOfEachBound);
        sentence("9: 0 .. 255", BoundaryTest::bytesHaveNoSign);
        sentence("9: as it lies on the disk", BoundaryTest::bytesOfTheTapeAreNotOnTheDisk);
        sentence("10: with n = 0 it fails at once; n is not NONE .. 1000", BoundaryTest::crashOfEachBound);
        sentence("10: The power will fail when n more blocks were written", BoundaryTest::powerForAThousand);
        sentence("10: whatever was said before", BoundaryTest::laterWordCounts);
        sentence("10: with NONE it will not", BoundaryTest::noneMeansNever);
        sentence("10: when n more BLOCKS were written", BoundaryTest::powerCountsBlocksAlone);
        sentence("11: Begins anew from the disk, DOWN or not", BoundaryTest::recoverWhenNotDown);
        sentence("11: how many extents there are: none", BoundaryTest::recoverOfADiskWithNothing);
        sentence("11: What crash() said is forgotten", BoundaryTest::recoverForgetsTheCrash);
        sentence("11: how many extents there are, each time", BoundaryTest::recoverAgainAndAgain);
        sentence("12, 13: How many blocks were written so far", BoundaryTest::writesWhenDown);
        sentence("14: Illegal argument: what is none of these", BoundaryTest::countOfEachBound);
        sentence("14: blocks that are in none (manifests' are none of them)", BoundaryTest::freeBlocksFromAllToNone);
        sentence("15: How many blocks too many extents have", BoundaryTest::doubledIsNone);
        sentence("An object is used for at most 512 calls", BoundaryTest::allOfFiveHundredAndTwelve);
    }

    public static void main(String[] args) {
        terms();
        promises1To7();
        promises8To15();
        finish();
    }
}
