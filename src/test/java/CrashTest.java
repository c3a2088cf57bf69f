/** A run of changes, with the power failing behind every block that it writes: each is wholly there or not at all. */
public final class CrashTest {
    private static final int[] SIZES = {5000, 1, 0, 8192, 4097, 12288, 0, 1, 20000, 4096};
    /** What goes with each change: labels LOWEST .. HIGHEST. */
    private static final int[] LOWEST = {1, 1, 0, 1, 0, 1, 3, 1, 0, 4};
    private static final int[] HIGHEST = {0, 0, 0, 0, 2, 0, 4, 0, 99, 8};
    private static int wrong = 0;

    private static void due(String what, String got, String want) {
        if (!got.equals(want)) {
            wrong++;
            System.out.println(what + ": " + got + ", due is " + want);
        }
    }

    private static void prepare(ExtentDisk d, int i) {
        d.wish(i, 1000 + i);
        d.wish(23, i);
        if (SIZES[i] > 0) {
            d.fill(i * 31, SIZES[i]);
        }
    }

    private static int change(ExtentDisk d, int i) {
        return d.change(i, LOWEST[i], HIGHEST[i]);
    }

    private static int blocks(int i) {
        return (SIZES[i] + 4095) / 4096 + 1;
    }

    /** Everything that counts; bytes are summed up, so that an object is not asked too often. */
    private static String state(ExtentDisk d) {
        StringBuilder s = new StringBuilder();
        for (int i = 0; i < 24; i++) {
            s.append(d.note(i)).append(' ');
        }
        for (int i = 0; i < d.count(0); i++) {
            int size = d.extent(i, 3);
            s.append("| ").append(d.extent(i, 0)).append(' ').append(d.extent(i, 1)).append(' ').append(size);
            for (int k = 0; k < size; k += 1021) {
                s.append(' ').append(d.byteAt(i, k));
            }
            s.append(' ').append(d.byteAt(i, size - 1));
        }
        return s.append("| ").append(d.count(1)).append(' ').append(d.count(3)).append(' ').append(d.doubled()).toString();
    }

    /** What counts when so many changes are there and the power never failed. */
    private static String stateAfter(int changes) {
        ExtentDisk d = new ExtentDisk(32);
        for (int i = 0; i < changes; i++) {
            prepare(d, i);
            change(d, i);
        }
        return state(d);
    }

    private static void failBehind(int power) {
        ExtentDisk d = new ExtentDisk(32);
        int left = power;
        d.crash(power);
        int i = 0;
        while (i < SIZES.length && left > blocks(i)) {
            prepare(d, i);
            due("power " + power + ", change " + i, "" + change(d, i), "" + blocks(i));
            left -= blocks(i);
            i++;
        }
        if (i == SIZES.length) {
            due("power " + power, "" + d.isDown(), "false");
            return;
        }
        prepare(d, i);
        due("power " + power + ", change " + i, "" + change(d, i), "" + ExtentDisk.CUT);
        due("power " + power + ", isDown", "" + d.isDown(), "true");
        due("power " + power + ", writes", "" + d.writes(), "" + power);
        int there = left == blocks(i) ? i + 1 : i;
        d.recover();
        due("power " + power + ", recovered", state(d), stateAfter(there));
        d.recover();
        goOn(d, there, power);
    }

    private static void goOn(ExtentDisk d, int there, int power) {
        for (int i = there; i < SIZES.length; i++) {
            prepare(d, i);
            due("power " + power + ", later change " + i, "" + change(d, i), "" + blocks(i));
        }
        d.recover();
        due("power " + power + ", at the end", state(d), stateAfter(SIZES.length));
    }

    public static void main(String[] args) {
        int all = 0;
        for (int i = 0; i < SIZES.length; i++) {
            all += blocks(i);
        }
        for (int power = 1; power <= all + 1; power++) {
            failBehind(power);
        }
        System.out.println(wrong == 0 ? "every failure left whole changes" : wrong + " answers are not as due");
        if (wrong != 0) {
            System.exit(1);
        }
    }
}
