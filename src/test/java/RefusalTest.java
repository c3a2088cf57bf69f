import java.util.ArrayList;
import java.util.List;

/**
 * Every call that is refused, in every kind of state: which exception is thrown, and that the call has changed
 * nothing, as a twin tells that never was asked. Calls that only ask are held to the same.
 */
public final class RefusalTest extends Answers {
    private static final int LOWEST = Integer.MIN_VALUE;
    private static final int HIGHEST = Integer.MAX_VALUE;

    private interface Recipe {
        ExtentDisk make();
    }

    private interface Asked {
        long of(ExtentDisk d);
    }

    private record Case(String name, Asked call, long want) { }

    // The states

    /** Two extents, wishes that are not the notes, a tape with bytes, and power for ten blocks more. */
    private static ExtentDisk inUse() {
        ExtentDisk d = withExtents(8, 5000, 1, 10);
        d.wish(0, 11);
        d.wish(23, -11);
        d.change(0, 1, 1);
        d.wish(0, 12);
        d.wish(1, 13);
        d.put(0x0102030405L, 5);
        d.crash(10);
        return d;
    }

    private static ExtentDisk tapeFull() {
        ExtentDisk d = inUse();
        d.fill(3, 32768 - 5);
        return d;
    }

    private static ExtentDisk tapeFullButSeven() {
        ExtentDisk d = inUse();
        d.fill(3, 32768 - 5 - 7);
        return d;
    }

    private static ExtentDisk diskFull() {
        ExtentDisk d = withExtents(8, 4096, 8192, 12288);
        d.wish(4, 44);
        d.fill(9, 9);
        d.crash(3);
        return d;
    }

    private static ExtentDisk downAtOnce() {
        ExtentDisk d = inUse();
        d.crash(0);
        return d;
    }

    private static ExtentDisk downBeforeTheManifest() {
        ExtentDisk d = inUse();
        d.crash(1);
        d.change(7, 0, 0);
        return d;
    }

    private static ExtentDisk downBehindTheManifest() {
        ExtentDisk d = inUse();
        d.crash(2);
        d.change(7, 0, 0);
        return d;
    }

    private static ExtentDisk newAndDown() {
        ExtentDisk d = new ExtentDisk(8);
        d.crash(0);
        return d;
    }

    // The calls

    private static void wrongNumbers(List<Case> cases) {
        for (int n : new int[] {LOWEST, -8, -1, 0, 9, 10, 100, HIGHEST}) {
            cases.add(new Case("put(7, " + n + ")", d -> d.put(7, n), ARGUMENT));
        }
        for (int n : new int[] {LOWEST, -100000, -1, 0, 100001, 100002, 524288, HIGHEST}) {
            cases.add(new Case("fill(7, " + n + ")", d -> d.fill(7, n), ARGUMENT));
        }
        for (int i : new int[] {LOWEST, -24, -1, 24, 25, 200, HIGHEST}) {
            cases.add(new Case("wish(" + i + ", 7)", d -> d.wish(i, 7), ARGUMENT));
            cases.add(new Case("note(" + i + ")", d -> d.note(i), ARGUMENT));
        }
        for (int n : new int[] {LOWEST, -1000, -3, -2, 1001, 1002, HIGHEST}) {
            cases.add(new Case("crash(" + n + ")", d -> crash(d, n), ARGUMENT));
        }
        for (int what : new int[] {LOWEST, -2, -1, 4, 5, HIGHEST}) {
            cases.add(new Case("count(" + what + ")", d -> d.count(what), ARGUMENT));
            cases.add(new Case("extent(0, " + what + ")", d -> d.extent(0, what), ARGUMENT));
        }
    }

    private static void noSuchExtents(List<Case> cases, int extents) {
        for (int i : new int[] {LOWEST, -1, extents, extents + 1, 199, 200, HIGHEST}) {
            for (int what = -1; what <= 4; what++) {
                int w = what;
                cases.add(new Case("extent(" + i + ", " + what + ")", d -> d.extent(i, w), ARGUMENT));
            }
            for (int k : new int[] {LOWEST, -1, 0, HIGHEST}) {
                cases.add(new Case("byteAt(" + i + ", " + k + ")", d -> d.byteAt(i, k), ARGUMENT));
            }
        }
    }

    private static void noSuchBytes(List<Case> cases, int... sizes) {
        for (int i = 0; i < sizes.length; i++) {
            int at = i;
            for (int k : new int[] {LOWEST, -4096, -1, sizes[i], sizes[i] + 1, 32768, HIGHEST}) {
                cases.add(new Case("byteAt(" + i + ", " + k + ")", d -> d.byteAt(at, k), ARGUMENT));
            }
        }
    }

    private static void storeIsDown(List<Case> cases) {
        for (int n : new int[] {1, 8}) {
            cases.add(new Case("put(7, " + n + ")", d -> d.put(7, n), STATE));
        }
        for (int n : new int[] {1, 32768, 100000}) {
            cases.add(new Case("fill(7, " + n + ")", d -> d.fill(7, n), STATE));
        }
        cases.add(new Case("drop()", ExtentDisk::drop, STATE));
        for (int i : new int[] {0, 23}) {
            cases.add(new Case("wish(" + i + ", 7)", d -> d.wish(i, 7), STATE));
            cases.add(new Case("note(" + i + ")", d -> d.note(i), STATE));
        }
        cases.add(new Case("change(7, 1, 0)", d -> d.change(7, 1, 0), STATE));
        cases.add(new Case("change of all", d -> d.change(7, LOWEST, HIGHEST), STATE));
        for (int n : new int[] {-1, 0, 1, 1000}) {
            cases.add(new Case("crash(" + n + ")", d -> crash(d, n), STATE));
        }
        for (int what = 0; what < 4; what++) {
            int w = what;
            cases.add(new Case("count(" + what + ")", d -> d.count(w), STATE));
        }
        cases.add(new Case("doubled()", ExtentDisk::doubled, STATE));
        cases.add(new Case("isDown()", Answers::isDown, 1));
    }

    /** Calls that only ask; what they answer is another test's. */
    private static void questions(List<Case> cases, Recipe recipe, int extents) {
        List<Asked> asked = new ArrayList<>();
        asked.add(Answers::isDown);
        asked.add(ExtentDisk::writes);
        asked.add(ExtentDisk::doubled);
        asked.add(d -> d.note(0));
        asked.add(d -> d.note(23));
        for (int n = 0; n < 4; n++) {
            int what = n;
            asked.add(d -> d.count(what));
            for (int i = 0; i < extents; i++) {
                int at = i;
                asked.add(d -> d.extent(at, what));
                asked.add(d -> d.byteAt(at, 0));
            }
        }
        for (Asked call : asked) {
            cases.add(new Case("a question", call, outcome(() -> call.of(recipe.make()))));
        }
    }

    // What a store tells of itself

    private static void tellExtents(StringBuilder s, ExtentDisk d) {
        for (int i = 0; i < d.count(0); i++) {
            int size = d.extent(i, 3);
            s.append(" | ").append(d.extent(i, 0)).append(' ').append(d.extent(i, 1)).append(' ').append(size).append(':');
            for (int k = 0; k < size; k += 1 + size / 8) {
                s.append(' ').append(d.byteAt(i, k));
            }
            s.append(' ').append(d.byteAt(i, size - 1));
        }
    }

    private static void tellNumbers(StringBuilder s, ExtentDisk d) {
        s.append(" | writes ").append(d.writes()).append(" down ").append(d.isDown()).append(" counts");
        for (int what = 0; what < 4; what++) {
            s.append(' ').append(d.count(what));
        }
        s.append(" notes");
        for (int i = 0; i < 24; i++) {
            s.append(' ').append(d.note(i));
        }
    }

    private static void tellWishes(StringBuilder s, ExtentDisk d) {
        s.append(" wishes");
        for (int i = 0; i < 24; i++) {
            int was = d.wish(i, 0);
            d.wish(i, was);
            s.append(' ').append(was);
        }
    }

    /** The tape's bytes show in an extent alone, and the power that is left in how many changes it takes. */
    private static void tellByChanges(StringBuilder s, ExtentDisk d) {
        s.append(" change ").append(d.change(99, 1, 0));
        if (!d.isDown()) {
            tellExtents(s, d);
            s.append(" dropped ").append(d.drop());
        }
        for (int i = 0; i < 12 && !d.isDown(); i++) {
            s.append(" change ").append(d.change(99, 1, 0));
        }
        s.append(" recovered ").append(d.recover());
    }

    private static String told(ExtentDisk d) {
        StringBuilder s = new StringBuilder("down ").append(d.isDown()).append(" writes ").append(d.writes());
        if (d.isDown()) {
            s.append(" recovered ").append(d.recover());
        }
        tellNumbers(s, d);
        tellWishes(s, d);
        tellExtents(s, d);
        tellByChanges(s, d);
        tellNumbers(s, d);
        tellExtents(s, d);
        return s.toString();
    }

    private static void check(String state, Recipe recipe, List<Case> cases) {
        String twin = told(recipe.make());
        for (Case c : cases) {
            ExtentDisk d = recipe.make();
            due(state + ": " + c.name(), c.want(), () -> c.call().of(d));
            dueText(state + ": what " + c.name() + " left", twin, told(d));
        }
        allInARow(state, recipe, cases, twin);
    }

    /** A few at a time, for an object has 512 calls and telling takes many of them. */
    private static void allInARow(String state, Recipe recipe, List<Case> cases, String twin) {
        for (int start = 0; start < cases.size(); start += 100) {
            ExtentDisk d = recipe.make();
            for (Case c : cases.subList(start, Math.min(cases.size(), start + 100))) {
                due(state + ": " + c.name() + " in a row", c.want(), () -> c.call().of(d));
            }
            dueText(state + ": what refused calls from " + start + " on left", twin, told(d));
        }
    }

    private static void up(String state, Recipe recipe, int... sizes) {
        List<Case> cases = new ArrayList<>();
        wrongNumbers(cases);
        noSuchExtents(cases, sizes.length);
        noSuchBytes(cases, sizes);
        questions(cases, recipe, sizes.length);
        check(state, recipe, cases);
    }

    private static void down(String state, Recipe recipe) {
        List<Case> cases = new ArrayList<>();
        wrongNumbers(cases);
        noSuchExtents(cases, 0);
        storeIsDown(cases);
        check(state, recipe, cases);
    }

    private static void noRoomOnTheTape() {
        List<Case> full = new ArrayList<>();
        for (int n = 1; n <= 8; n++) {
            int bytes = n;
            full.add(new Case("put(7, " + n + ")", d -> d.put(7, bytes), STATE));
        }
        for (int n : new int[] {1, 2, 32768, 100000}) {
            full.add(new Case("fill(7, " + n + ")", d -> d.fill(7, n), STATE));
        }
        check("a full tape", RefusalTest::tapeFull, full);
        List<Case> nearlyFull = new ArrayList<>();
        nearlyFull.add(new Case("put(7, 8)", d -> d.put(7, 8), STATE));
        for (int n : new int[] {8, 9, 32768, 100000}) {
            nearlyFull.add(new Case("fill(7, " + n + ")", d -> d.fill(7, n), STATE));
        }
        check("a tape with room for seven", RefusalTest::tapeFullButSeven, nearlyFull);
    }

    private static void noRoomOnTheDisk() {
        List<Case> cases = new ArrayList<>();
        for (int from : new int[] {LOWEST, 0, 1, 2, HIGHEST}) {
            cases.add(new Case("change(7, " + from + ", 2)", d -> d.change(7, from, 2), ExtentDisk.FULL));
        }
        check("a full disk", RefusalTest::diskFull, cases);
    }

    public static void main(String[] args) {
        sentence("Illegal argument: a number is out of its bounds, or there is no such extent or byte", () -> {
            up("a new store", () -> new ExtentDisk(8));
            up("a store in use", RefusalTest::inUse, 5000, 10);
            up("a full disk", RefusalTest::diskFull, 4096, 8192, 12288);
        });
        sentence("Illegal argument before illegal state, with a full tape", () -> {
            up("a full tape", RefusalTest::tapeFull, 5000, 10);
            up("a tape with room for seven", RefusalTest::tapeFullButSeven, 5000, 10);
        });
        sentence("Illegal state: the store is DOWN; of several exceptions the one named first is thrown", () -> {
            down("a new store that is down", RefusalTest::newAndDown);
            down("down at once", RefusalTest::downAtOnce);
            down("down before the manifest", RefusalTest::downBeforeTheManifest);
            down("down behind the manifest", RefusalTest::downBehindTheManifest);
        });
        sentence("Illegal state: the tape would have more bytes than it may", RefusalTest::noRoomOnTheTape);
        sentence("FULL: nothing is changed or written, the tape stays", RefusalTest::noRoomOnTheDisk);
        finish();
    }
}
