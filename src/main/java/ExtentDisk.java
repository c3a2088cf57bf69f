import java.util.Arrays;

/**
 * A disk whose changes are wholly there or not at all, wherever the power fails: each writes one
 * row of blocks where nothing lies that counts, and then one block that says what counts from now on.
 */
public final class ExtentDisk {
    public static final int NONE = -1;
    public static final int FULL = -2;
    public static final int CUT = -3;

    private static final int BLOCK_BYTES = 4096;
    private static final int FEWEST_BLOCKS = 8;
    private static final int MOST_BLOCKS = 128;
    private static final int MANIFEST_BLOCKS = 2;
    private static final int MOST_EXTENTS = 200;
    private static final int NOTES = 24;
    private static final int MOST_PUT = 8;
    private static final int MOST_FILL = 100000;
    private static final int MOST_WRITES_AHEAD = 1000;

    private final Platter platter;
    private final Tape tape;
    private final int[] wishes;
    /** A manifest is put together here, so that it reaches the disk in one block's write. */
    private final byte[] page;
    /** How many extents each block is in; worked out anew whenever it is asked for. */
    private final int[] tenants;
    private Manifest now;
    /** Holds no state between calls: the manifest of a change that is not yet there. */
    private Manifest next;

    public ExtentDisk(int blocks) {
        int size = Math.max(FEWEST_BLOCKS, Math.min(MOST_BLOCKS, blocks));
        platter = new Platter(size);
        tape = new Tape(size);
        wishes = new int[NOTES];
        page = new byte[BLOCK_BYTES];
        tenants = new int[size];
        now = new Manifest();
        next = new Manifest();
    }

    public int put(long v, int n) throws IllegalArgumentException, IllegalStateException {
        if (n < 1 || n > MOST_PUT) {
            throw new IllegalArgumentException("n is not 1 .. 8");
        }
        if (platter.down || !tape.hasRoomFor(n)) {
            throw new IllegalStateException("the store is down, or the tape has no room");
        }
        for (int left = n - 1; left >= 0; left--) {
            tape.append((byte) (v >>> (8 * left)));
        }
        return tape.length;
    }

    public int fill(int b, int n) throws IllegalArgumentException, IllegalStateException {
        if (n < 1 || n > MOST_FILL) {
            throw new IllegalArgumentException("n is not 1 .. 100000");
        }
        if (platter.down || !tape.hasRoomFor(n)) {
            throw new IllegalStateException("the store is down, or the tape has no room");
        }
        for (int k = 0; k < n; k++) {
            tape.append((byte) (b + k));
        }
        return tape.length;
    }

    public int drop() throws IllegalStateException {
        if (platter.down) {
            throw new IllegalStateException("the store is down");
        }
        int had = tape.length;
        tape.length = 0;
        return had;
    }

    public int wish(int i, int v) throws IllegalArgumentException, IllegalStateException {
        if (i < 0 || i >= NOTES) {
            throw new IllegalArgumentException("i is not 0 .. 23");
        }
        if (platter.down) {
            throw new IllegalStateException("the store is down");
        }
        int was = wishes[i];
        wishes[i] = v;
        return was;
    }

    public int note(int i) throws IllegalArgumentException, IllegalStateException {
        if (i < 0 || i >= NOTES) {
            throw new IllegalArgumentException("i is not 0 .. 23");
        }
        if (platter.down) {
            throw new IllegalStateException("the store is down");
        }
        return now.notes[i];
    }

    public int change(int label, int from, int to) throws IllegalStateException {
        if (platter.down) {
            throw new IllegalStateException("the store is down");
        }
        next.follow(now, from, to);
        next.takeNotes(wishes);
        int first = NONE;
        if (tape.length > 0) {
            first = firstFreeRow(blocksFor(tape.length));
            if (first == NONE || !next.add(label, first, tape.length)) {
                return FULL;
            }
        }
        return carryOut(first);
    }

    public int extent(int i, int what) throws IllegalArgumentException {
        if (!now.holds(i)) {
            throw new IllegalArgumentException("there is no such extent");
        }
        switch (what) {
            case 0:
                return now.labels[i];
            case 1:
                return now.firsts[i];
            case 2:
                return blocksFor(now.sizes[i]);
            case 3:
                return now.sizes[i];
            default:
                throw new IllegalArgumentException("what is not 0 .. 3");
        }
    }

    public int byteAt(int i, int k) throws IllegalArgumentException {
        if (!now.holds(i)) {
            throw new IllegalArgumentException("there is no such extent");
        }
        if (k < 0 || k >= now.sizes[i]) {
            throw new IllegalArgumentException("there is no such byte");
        }
        return platter.read(now.firsts[i] * BLOCK_BYTES + k);
    }

    public void crash(int n) throws IllegalArgumentException, IllegalStateException {
        if (n < NONE || n > MOST_WRITES_AHEAD) {
            throw new IllegalArgumentException("n is not NONE .. 1000");
        }
        if (platter.down) {
            throw new IllegalStateException("the store is down");
        }
        platter.limitPower(n);
        if (platter.down) {
            forget();
        }
    }

    public int recover() {
        platter.limitPower(NONE);
        tape.length = 0;
        now.load(platter, 0);
        next.load(platter, 1);
        if (next.changes > now.changes) {
            makeNextCount();
        }
        System.arraycopy(now.notes, 0, wishes, 0, NOTES);
        return now.extents;
    }

    public boolean isDown() {
        return platter.down;
    }

    public int writes() {
        return platter.written;
    }

    public int count(int what) throws IllegalArgumentException, IllegalStateException {
        if (what < 0 || what > 3) {
            throw new IllegalArgumentException("what is not 0 .. 3");
        }
        if (platter.down) {
            throw new IllegalStateException("the store is down");
        }
        switch (what) {
            case 0:
                return now.extents;
            case 1:
                return freeBlocks();
            case 2:
                return tape.length;
            default:
                return now.changes;
        }
    }

    public int doubled() throws IllegalStateException {
        if (platter.down) {
            throw new IllegalStateException("the store is down");
        }
        now.countTenants(tenants);
        int tooMany = 0;
        for (int b = 0; b < tenants.length; b++) {
            tooMany += Math.max(0, tenants[b] - 1);
        }
        return tooMany;
    }

    private static int blocksFor(int bytes) {
        return (bytes + BLOCK_BYTES - 1) / BLOCK_BYTES;
    }

    private int freeBlocks() {
        now.countTenants(tenants);
        int free = 0;
        for (int b = MANIFEST_BLOCKS; b < tenants.length; b++) {
            if (tenants[b] == 0) {
                free++;
            }
        }
        return free;
    }

    /** Asks the extents that are there still, for those that go must outlive a change that is cut. */
    private int firstFreeRow(int length) {
        now.countTenants(tenants);
        int free = 0;
        for (int b = MANIFEST_BLOCKS; b < tenants.length; b++) {
            free = tenants[b] == 0 ? free + 1 : 0;
            if (free == length) {
                return b - length + 1;
            }
        }
        return NONE;
    }

    /** The manifest comes last: as long as it is not written, the one before it counts. */
    private int carryOut(int first) {
        int row = blocksFor(tape.length);
        for (int b = 0; b < row; b++) {
            if (!platter.writeBlock(first + b, tape.bytes, b * BLOCK_BYTES)) {
                forget();
                return CUT;
            }
        }
        next.store(page);
        // Odd and even take turns, so that the manifest that counts is never the one written over.
        if (!platter.writeBlock(next.changes & 1, page, 0)) {
            forget();
            return CUT;
        }
        makeNextCount();
        tape.length = 0;
        return row + 1;
    }

    private void makeNextCount() {
        Manifest old = now;
        now = next;
        next = old;
    }

    /** Only what is on the disk outlives the power. */
    private void forget() {
        tape.length = 0;
        now.clear();
        Arrays.fill(wishes, 0);
    }

    /** The bytes of the disk, and the power that it takes to write them. */
    private static final class Platter {
        final byte[] bytes;
        boolean down;
        int written;
        /** How many blocks may still be written; NONE if there is no limit. */
        int powerLeft;

        Platter(int blocks) {
            bytes = new byte[blocks * BLOCK_BYTES];
            powerLeft = NONE;
        }

        void limitPower(int writesLeft) {
            powerLeft = writesLeft;
            down = writesLeft == 0;
        }

        /** Whether there is power behind the write. Nothing else changes the bytes of the disk. */
        boolean writeBlock(int block, byte[] source, int from) {
            int to = block * BLOCK_BYTES;
            if (down || to < 0 || to > bytes.length - BLOCK_BYTES
                    || from < 0 || from > source.length - BLOCK_BYTES) {
                return false;
            }
            System.arraycopy(source, from, bytes, to, BLOCK_BYTES);
            written++;
            if (powerLeft > 0) {
                limitPower(powerLeft - 1);
            }
            return !down;
        }

        int read(int at) {
            return at >= 0 && at < bytes.length ? bytes[at] & 255 : 0;
        }

        int readInt(int at) {
            return read(at) << 24 | read(at + 1) << 16 | read(at + 2) << 8 | read(at + 3);
        }
    }

    /** Has room for whole blocks, so that its last block can be written like the others. */
    private static final class Tape {
        final byte[] bytes;
        int length;

        Tape(int blocks) {
            bytes = new byte[blocks * BLOCK_BYTES];
        }

        boolean hasRoomFor(int more) {
            return more <= bytes.length - length;
        }

        void append(byte b) {
            if (length >= 0 && length < bytes.length) {
                bytes[length] = b;
                length++;
            }
        }
    }

    /**
     * What counts: extents, notes, and how many changes led to them. A block that was never written
     * reads as no changes, no extents and all notes 0, which is what a new disk has.
     */
    private static final class Manifest {
        private static final int CHANGES_AT = 0;
        private static final int EXTENTS_AT = 4;
        private static final int NOTES_AT = 8;
        private static final int ROWS_AT = NOTES_AT + 4 * NOTES;
        private static final int ROW_BYTES = 12;

        final int[] labels = new int[MOST_EXTENTS];
        final int[] firsts = new int[MOST_EXTENTS];
        final int[] sizes = new int[MOST_EXTENTS];
        final int[] notes = new int[NOTES];
        int extents;
        int changes;

        boolean holds(int i) {
            return i >= 0 && i < extents && i < MOST_EXTENTS;
        }

        void clear() {
            extents = 0;
            changes = 0;
            Arrays.fill(notes, 0);
        }

        boolean add(int label, int first, int size) {
            if (extents < 0 || extents >= MOST_EXTENTS) {
                return false;
            }
            labels[extents] = label;
            firsts[extents] = first;
            sizes[extents] = size;
            extents++;
            return true;
        }

        /** Becomes what comes behind another: one change more, and the extents that do not go. */
        void follow(Manifest before, int from, int to) {
            clear();
            changes = before.changes + 1;
            for (int i = 0; i < before.extents && i < MOST_EXTENTS; i++) {
                int label = before.labels[i];
                if (label < from || label > to) {
                    add(label, before.firsts[i], before.sizes[i]);
                }
            }
        }

        void takeNotes(int[] wanted) {
            for (int i = 0; i < NOTES && i < wanted.length; i++) {
                notes[i] = wanted[i];
            }
        }

        void countTenants(int[] tenants) {
            Arrays.fill(tenants, 0);
            for (int i = 0; i < extents && i < MOST_EXTENTS; i++) {
                int end = firsts[i] + blocksFor(sizes[i]);
                for (int b = Math.max(0, firsts[i]); b < end && b < tenants.length; b++) {
                    tenants[b]++;
                }
            }
        }

        void store(byte[] page) {
            storeInt(page, CHANGES_AT, changes);
            storeInt(page, EXTENTS_AT, extents);
            for (int i = 0; i < NOTES; i++) {
                storeInt(page, NOTES_AT + 4 * i, notes[i]);
            }
            for (int i = 0; i < extents && i < MOST_EXTENTS; i++) {
                int at = ROWS_AT + ROW_BYTES * i;
                storeInt(page, at, labels[i]);
                storeInt(page, at + 4, firsts[i]);
                storeInt(page, at + 8, sizes[i]);
            }
        }

        void load(Platter platter, int block) {
            int start = block * BLOCK_BYTES;
            clear();
            changes = platter.readInt(start + CHANGES_AT);
            for (int i = 0; i < NOTES; i++) {
                notes[i] = platter.readInt(start + NOTES_AT + 4 * i);
            }
            int stored = Math.min(MOST_EXTENTS, platter.readInt(start + EXTENTS_AT));
            for (int i = 0; i < stored; i++) {
                int at = start + ROWS_AT + ROW_BYTES * i;
                add(platter.readInt(at), platter.readInt(at + 4), platter.readInt(at + 8));
            }
        }

        private static void storeInt(byte[] page, int at, int v) {
            if (at < 0 || at > page.length - 4) {
                return;
            }
            page[at] = (byte) (v >>> 24);
            page[at + 1] = (byte) (v >>> 16);
            page[at + 2] = (byte) (v >>> 8);
            page[at + 3] = (byte) v;
        }
    }
}
