import java.util.ArrayList;
import java.util.List;
import java.util.Random;

/** Many runs of up to 512 calls, held against a plain model that knows no manifests and no blocks of bytes. */
public final class ModelTest {
    private static final int RUNS = 400;
    private static final int CALLS = 512;
    private static final int[] ODD_NUMBERS = {-1, 0, 1, 8, 9, 23, 24, 200, 1000, 1001, 100000, 100001, -2, 4096, 4097,
        Integer.MIN_VALUE, Integer.MAX_VALUE};

    private record Extent(int label, int first, byte[] bytes) {
        int blocks() {
            return (bytes.length + 4095) / 4096;
        }
    }

    /** What is there: never changed, but replaced. */
    private record State(List<Extent> extents, int[] notes, int changes) { }

    private static final class Model {
        final int blocks;
        State state = new State(List.of(), new int[24], 0);
        byte[] tape = new byte[0];
        int[] wishes = new int[24];
        boolean down;
        int power = -1;
        int writes;

        Model(int blocks) {
            this.blocks = blocks < 8 ? 8 : blocks > 128 ? 128 : blocks;
        }

        static void argument(boolean good) {
            if (!good) {
                throw new IllegalArgumentException();
            }
        }

        static void state(boolean good) {
            if (!good) {
                throw new IllegalStateException();
            }
        }

        int append(byte[] more) {
            state(!down && tape.length + more.length <= 4096 * blocks);
            byte[] longer = java.util.Arrays.copyOf(tape, tape.length + more.length);
            System.arraycopy(more, 0, longer, tape.length, more.length);
            tape = longer;
            return tape.length;
        }

        int put(long v, int n) {
            argument(n >= 1 && n <= 8);
            byte[] all = java.nio.ByteBuffer.allocate(8).putLong(v).array();
            return append(java.util.Arrays.copyOfRange(all, 8 - n, 8));
        }

        int fill(int b, int n) {
            argument(n >= 1 && n <= 100000);
            byte[] more = new byte[n];
            for (int k = 0; k < n; k++) {
                more[k] = (byte) ((b & 255) + (k & 255));
            }
            return append(more);
        }

        int drop() {
            state(!down);
            int had = tape.length;
            tape = new byte[0];
            return had;
        }

        int wish(int i, int v) {
            argument(i >= 0 && i < 24);
            state(!down);
            int was = wishes[i];
            wishes[i] = v;
            return was;
        }

        int note(int i) {
            argument(i >= 0 && i < 24);
            state(!down);
            return state.notes[i];
        }

        boolean isFree(int block) {
            for (Extent e : state.extents) {
                if (block >= e.first && block < e.first + e.blocks()) {
                    return false;
                }
            }
            return true;
        }

        int findRow(int length) {
            for (int first = 2; first + length <= blocks; first++) {
                boolean free = true;
                for (int b = first; b < first + length; b++) {
                    free &= isFree(b);
                }
                if (free) {
                    return first;
                }
            }
            return -1;
        }

        int change(int label, int from, int to) {
            state(!down);
            List<Extent> kept = new ArrayList<>(state.extents);
            kept.removeIf(e -> from <= e.label && e.label <= to);
            int toWrite = 1;
            if (tape.length > 0) {
                int length = (tape.length + 4095) / 4096;
                int first = findRow(length);
                if (first < 0 || kept.size() + 1 > 200) {
                    return -2;
                }
                kept.add(new Extent(label, first, tape));
                toWrite += length;
            }
            boolean fails = power >= 0 && power <= toWrite;
            int written = fails ? power : toWrite;
            writes += written;
            power = power < 0 ? power : power - written;
            if (written == toWrite) {
                state = new State(kept, wishes.clone(), state.changes + 1);
                tape = new byte[0];
            }
            down = fails;
            return fails ? -3 : toWrite;
        }

        Extent find(int i) {
            argument(!down && i >= 0 && i < state.extents.size());
            return state.extents.get(i);
        }

        int extent(int i, int what) {
            argument(what >= 0 && what <= 3);
            Extent e = find(i);
            return new int[] {e.label, e.first, e.blocks(), e.bytes.length}[what];
        }

        int byteAt(int i, int k) {
            Extent e = find(i);
            argument(k >= 0 && k < e.bytes.length);
            return Byte.toUnsignedInt(e.bytes[k]);
        }

        int crash(int n) {
            argument(n >= -1 && n <= 1000);
            state(!down);
            power = n;
            down = n == 0;
            return 0;
        }

        int recover() {
            down = false;
            power = -1;
            tape = new byte[0];
            wishes = state.notes.clone();
            return state.extents.size();
        }

        int count(int what) {
            argument(what >= 0 && what <= 3);
            state(!down);
            int free = 0;
            for (int b = 2; b < blocks; b++) {
                free += isFree(b) ? 1 : 0;
            }
            return new int[] {state.extents.size(), free, tape.length, state.changes}[what];
        }

        int doubled() {
            state(!down);
            return 0;
        }
    }

    private interface Call {
        int answer();
    }

    private static String outcome(Call call) {
        try {
            return Integer.toString(call.answer());
        } catch (RuntimeException e) {
            return e.getClass().getName();
        }
    }

    private static Random random;
    private static ExtentDisk disk;
    private static Model model;
    private static String told;

    /** Mostly a number that fits, at times one at an edge or far beyond. */
    private static int number(int low, int high) {
        return random.nextInt(12) == 0 ? ODD_NUMBERS[random.nextInt(ODD_NUMBERS.length)]
                : low + random.nextInt(high - low + 1);
    }

    private static boolean agree(String call, Call real, Call due) {
        String got = outcome(real);
        String want = outcome(due);
        told = call + " answered " + got + ", due is " + want;
        return got.equals(want);
    }

    private static boolean changeOnce() {
        int label = number(0, 30);
        int from = number(0, 40);
        int to = random.nextBoolean() ? from + random.nextInt(4) : number(0, 30);
        return agree("change(" + label + ", " + from + ", " + to + ")",
                () -> disk.change(label, from, to), () -> model.change(label, from, to));
    }

    private static boolean fillOnce() {
        int b = random.nextInt();
        int n = random.nextInt(3) == 0 ? 4096 * (1 + random.nextInt(4)) + random.nextInt(3) - 1
                : number(1, random.nextInt(8) == 0 ? 100000 : 9000);
        return agree("fill(" + b + ", " + n + ")", () -> disk.fill(b, n), () -> model.fill(b, n));
    }

    private static boolean ask(int which) {
        int i = number(0, Math.max(0, model.state.extents.size() - 1));
        int k = random.nextBoolean() ? number(0, 5000) : 4096 * random.nextInt(4) + random.nextInt(3) - 1;
        int what = number(0, 3);
        int at = number(0, 23);
        switch (which) {
            case 0:
                return agree("extent(" + i + ", " + what + ")", () -> disk.extent(i, what), () -> model.extent(i, what));
            case 1:
                return agree("count(" + what + ")", () -> disk.count(what), () -> model.count(what));
            case 2:
                return agree("note(" + at + ")", () -> disk.note(at), () -> model.note(at));
            case 3:
                return agree("writes()", disk::writes, () -> model.writes);
            case 4:
                return agree("isDown()", () -> disk.isDown() ? 1 : 0, () -> model.down ? 1 : 0);
            case 5:
                return agree("doubled()", disk::doubled, model::doubled);
            default:
                return agree("byteAt(" + i + ", " + k + ")", () -> disk.byteAt(i, k), () -> model.byteAt(i, k));
        }
    }

    private static boolean callOnce() {
        int v = random.nextInt();
        int at = number(0, 23);
        int n = number(1, 8);
        int power = number(-1, 12);
        switch (random.nextInt(16)) {
            case 0: case 1: case 2:
                return changeOnce();
            case 3: case 4:
                return fillOnce();
            case 5:
                long w = random.nextLong();
                return agree("put(" + w + ", " + n + ")", () -> disk.put(w, n), () -> model.put(w, n));
            case 6:
                return agree("wish(" + at + ", " + v + ")", () -> disk.wish(at, v), () -> model.wish(at, v));
            case 7:
                return random.nextInt(3) > 0 || agree("crash(" + power + ")", () -> {
                    disk.crash(power);
                    return 0;
                }, () -> model.crash(power));
            case 8:
                return !model.down && random.nextInt(8) > 0 || agree("recover()", disk::recover, model::recover);
            case 9:
                return random.nextInt(3) > 0 || agree("drop()", disk::drop, model::drop);
            default:
                return ask(random.nextInt(12));
        }
    }

    public static void main(String[] args) {
        int wrong = 0;
        for (int run = 0; run < RUNS; run++) {
            random = new Random(run);
            int blocks = number(0, random.nextBoolean() ? 24 : 140);
            disk = new ExtentDisk(blocks);
            model = new Model(blocks);
            for (int call = 0; call < CALLS; call++) {
                if (!callOnce()) {
                    wrong++;
                    System.out.println("run " + run + ", call " + call + ", " + blocks + " blocks: " + told);
                    break;
                }
            }
        }
        System.out.println(wrong == 0 ? "all runs are as the model's" : wrong + " runs are not as the model's");
        if (wrong != 0) {
            System.exit(1);
        }
    }
}
