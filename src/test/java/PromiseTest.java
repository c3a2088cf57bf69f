/** Each promise of the document: ordinary inputs, the edges that it names, and wrong inputs. */
public final class PromiseTest extends Answers {
    private static ExtentDisk down() {
        ExtentDisk d = new ExtentDisk(8);
        d.fill(1, 10);
        d.wish(0, 5);
        d.change(3, 1, 0);
        d.fill(1, 20);
        d.wish(0, 6);
        d.crash(0);
        return d;
    }

    private static void newObject() {
        int[][] sizes = {{Integer.MIN_VALUE, 8}, {-1, 8}, {0, 8}, {7, 8}, {8, 8}, {9, 9}, {64, 64},
            {127, 127}, {128, 128}, {129, 128}, {Integer.MAX_VALUE, 128}};
        for (int[] size : sizes) {
            ExtentDisk d = new ExtentDisk(size[0]);
            String of = "new ExtentDisk(" + size[0] + ")";
            due(of + " count(0)", 0, () -> d.count(0));
            due(of + " count(1)", size[1] - 2, () -> d.count(1));
            due(of + " count(2)", 0, () -> d.count(2));
            due(of + " count(3)", 0, () -> d.count(3));
            due(of + " writes", 0, d::writes);
            due(of + " isDown", 0, () -> isDown(d));
            due(of + " doubled", 0, d::doubled);
            due(of + " extent(0, 0)", ARGUMENT, () -> d.extent(0, 0));
            for (int i = 0; i < 24; i++) {
                int at = i;
                due(of + " note " + i, 0, () -> d.note(at));
                due(of + " wish " + i, 0, () -> d.wish(at, 0));
            }
            due(of + " recover", 0, d::recover);
            due(of + " count(3)", 0, () -> d.count(3));
        }
    }

    private static void put() {
        ExtentDisk d = new ExtentDisk(8);
        for (int n : new int[] {0, 9, -1, Integer.MIN_VALUE, Integer.MAX_VALUE}) {
            due("put(1, " + n + ")", ARGUMENT, () -> d.put(1, n));
        }
        int length = 0;
        for (int n = 1; n <= 8; n++) {
            int bytes = n;
            length += n;
            due("put(.., " + n + ")", length, () -> d.put(0x81828384F5F6F7F8L, bytes));
        }
        d.change(0, 1, 0);
        int[] whole = {0x81, 0x82, 0x83, 0x84, 0xF5, 0xF6, 0xF7, 0xF8};
        int at = 0;
        for (int n = 1; n <= 8; n++) {
            for (int j = 8 - n; j < 8; j++) {
                int k = at++;
                due("byte " + k + " of what was put", whole[j], () -> d.byteAt(0, k));
            }
        }
        due("put behind a change", 1, () -> d.put(0, 1));
        due("put when down", STATE, () -> down().put(0, 1));
        due("put when down, n wrong", ARGUMENT, () -> down().put(0, 9));
        ExtentDisk full = new ExtentDisk(8);
        full.fill(0, 32761);
        due("put beyond the tape", STATE, () -> full.put(0, 8));
        due("put beyond the tape changes nothing", 32761, () -> full.count(2));
        due("put beyond the tape, n wrong", ARGUMENT, () -> full.put(0, 0));
        due("put to the tape's end", 32768, () -> full.put(0, 7));
        due("put behind the tape's end", STATE, () -> full.put(0, 1));
    }

    private static void fill() {
        ExtentDisk d = new ExtentDisk(128);
        for (int n : new int[] {0, 100001, -1, Integer.MIN_VALUE, Integer.MAX_VALUE}) {
            due("fill(1, " + n + ")", ARGUMENT, () -> d.fill(1, n));
        }
        due("fill(254, 3)", 3, () -> d.fill(254, 3));
        due("fill(-1, 2)", 5, () -> d.fill(-1, 2));
        due("fill(max, 2)", 7, () -> d.fill(Integer.MAX_VALUE, 2));
        due("fill(min, 1)", 8, () -> d.fill(Integer.MIN_VALUE, 1));
        due("fill(7, 100000)", 100008, () -> d.fill(7, 100000));
        d.change(0, 1, 0);
        int[] start = {254, 255, 0, 255, 0, 255, 0, 0, 7, 8};
        for (int k = 0; k < start.length; k++) {
            int at = k;
            due("byte " + k + " of what was filled", start[k], () -> d.byteAt(0, at));
        }
        due("the last byte of what was filled", (7 + 99999) & 255, () -> d.byteAt(0, 100007));
        for (int i = 1; i <= 5; i++) {
            int times = i;
            due("fill " + i, 100000 * times, () -> d.fill(0, 100000));
        }
        due("fill beyond the tape", STATE, () -> d.fill(0, 24289));
        due("fill beyond the tape changes nothing", 500000, () -> d.count(2));
        due("fill to the tape's end", 524288, () -> d.fill(0, 24288));
        due("fill behind the tape's end", STATE, () -> d.fill(0, 1));
        due("fill behind the tape's end, n wrong", ARGUMENT, () -> d.fill(0, 0));
        due("fill when down", STATE, () -> down().fill(0, 1));
        due("fill when down, n wrong", ARGUMENT, () -> down().fill(0, 100001));
    }

    private static void drop() {
        ExtentDisk d = new ExtentDisk(8);
        due("drop of nothing", 0, d::drop);
        d.fill(0, 32768);
        due("drop", 32768, d::drop);
        due("the tape behind drop", 0, () -> d.count(2));
        due("drop again", 0, d::drop);
        d.fill(50, 1);
        d.change(0, 1, 0);
        due("a byte put behind drop", 50, () -> d.byteAt(0, 0));
        due("an extent put behind drop", 1, () -> d.extent(0, 3));
        due("drop when down", STATE, () -> down().drop());
    }

    private static void wish() {
        ExtentDisk d = new ExtentDisk(8);
        for (int i : new int[] {-1, 24, Integer.MIN_VALUE, Integer.MAX_VALUE}) {
            due("wish(" + i + ", 1)", ARGUMENT, () -> d.wish(i, 1));
        }
        due("wish 0", 0, () -> d.wish(0, Integer.MIN_VALUE));
        due("wish 0 again", Integer.MIN_VALUE, () -> d.wish(0, 4));
        due("wish 23", 0, () -> d.wish(23, Integer.MAX_VALUE));
        due("note 0 behind a wish", 0, () -> d.note(0));
        d.change(0, 1, 0);
        due("wish 0 behind a change", 4, () -> d.wish(0, 5));
        due("wish 23 behind a change", Integer.MAX_VALUE, () -> d.wish(23, 6));
        d.recover();
        due("wish 0 behind recovery", 4, () -> d.wish(0, 4));
        due("wish 23 behind recovery", Integer.MAX_VALUE, () -> d.wish(23, 1));
        due("wish when down", STATE, () -> down().wish(0, 1));
        due("wish when down, i wrong", ARGUMENT, () -> down().wish(24, 1));
    }

    private static void note() {
        ExtentDisk d = new ExtentDisk(8);
        for (int i : new int[] {-1, 24, Integer.MIN_VALUE, Integer.MAX_VALUE}) {
            due("note(" + i + ")", ARGUMENT, () -> d.note(i));
        }
        for (int i = 0; i < 24; i++) {
            d.wish(i, 0x7F80FF01 * (i + 1));
        }
        for (int round = 0; round < 2; round++) {
            d.change(0, 1, 0);
            d.recover();
            for (int i = 0; i < 24; i++) {
                int at = i;
                due("note " + i, 0x7F80FF01 * (at + 1), () -> d.note(at));
            }
        }
        d.wish(2, 9);
        d.fill(0, 28673);
        due("a change with no room", ExtentDisk.FULL, () -> d.change(0, 1, 0));
        due("note 2 behind a change with no room", 0x7F80FF01 * 3, () -> d.note(2));
        due("wish 2 behind a change with no room", 9, () -> d.wish(2, 9));
        due("note when down", STATE, () -> down().note(0));
        due("note when down, i wrong", ARGUMENT, () -> down().note(-1));
    }

    private static void changeTakesAway() {
        ExtentDisk d = withExtents(20, 1, 1, 1, 1, 1);
        due("from above to", 1, () -> d.change(0, 4, 3));
        due("none went", 5, () -> d.count(0));
        due("from above to, the furthest", 1, () -> d.change(0, Integer.MAX_VALUE, Integer.MIN_VALUE));
        due("none went still", 5, () -> d.count(0));
        due("1 .. 2 go", 1, () -> d.change(0, 1, 2));
        due("three are left", 3, () -> d.count(0));
        int[] labels = {0, 3, 4};
        for (int i = 0; i < 3; i++) {
            int at = i;
            due("label " + i + " of those left", labels[i], () -> d.extent(at, 0));
            due("byte " + i + " of those left", labels[i], () -> d.byteAt(at, 0));
        }
        d.fill(9, 1);
        due("the new one does not go by its own label", 2, () -> d.change(3, 3, 3));
        due("the new one comes last", 3, () -> d.extent(2, 0));
        due("the new one's byte", 9, () -> d.byteAt(2, 0));
        d.fill(8, 1);
        due("labels may be the same", 2, () -> d.change(3, 1, 0));
        due("both of one label go, and an edge", 1, () -> d.change(0, 3, 4));
        due("one is left", 1, () -> d.count(0));
        due("all go", 1, () -> d.change(0, Integer.MIN_VALUE, Integer.MAX_VALUE));
        due("none is left", 0, () -> d.count(0));
        d.fill(1, 1);
        d.change(Integer.MIN_VALUE, 1, 0);
        d.fill(1, 1);
        d.change(Integer.MAX_VALUE, 1, 0);
        due("the lowest label goes", 1, () -> d.change(0, Integer.MIN_VALUE, Integer.MIN_VALUE));
        due("the highest is left", Integer.MAX_VALUE, () -> d.extent(0, 0));
        due("change when down", STATE, () -> down().change(0, 1, 0));
    }

    private static void changeFindsRoom() {
        ExtentDisk d = withExtents(12, 4096, 8192, 4096, 12288);
        due("three blocks are free", 3, () -> d.count(1));
        d.fill(1, 12289);
        due("four blocks have no room", ExtentDisk.FULL, () -> d.change(9, 0, 9));
        due("nothing went", 4, () -> d.count(0));
        due("the tape stays", 12289, () -> d.count(2));
        due("nothing was written", 11, d::writes);
        due("no change more is there", 4, () -> d.count(3));
        d.drop();
        d.change(0, 1, 1);
        d.fill(1, 8193);
        due("three blocks in the one gap that is long enough", 4, () -> d.change(5, 1, 0));
        due("behind all others", 9, () -> d.extent(3, 1));
        d.fill(2, 12288);
        due("two free blocks are not three", ExtentDisk.FULL, () -> d.change(6, 3, 3));
        d.drop();
        d.fill(2, 1);
        due("blocks of one that goes are not free", 2, () -> d.change(6, 0, 0));
        due("in the gap", 3, () -> d.extent(3, 1));
        d.fill(2, 1);
        due("as far in front as it can", 2, () -> d.change(7, 1, 0));
        due("in front of all", 2, () -> d.extent(4, 1));
        due("one block is free", 1, () -> d.count(1));
        d.fill(3, 1);
        due("one block in the last gap", 2, () -> d.change(8, 1, 0));
        due("in the last gap", 4, () -> d.extent(5, 1));
        due("an empty tape needs no room", 1, () -> d.change(0, 1, 0));
        d.fill(3, 1);
        due("one byte has no room", ExtentDisk.FULL, () -> d.change(0, Integer.MIN_VALUE, Integer.MAX_VALUE));
        ExtentDisk apart = withExtents(8, 1, 1, 1, 1, 1, 1);
        apart.change(0, 1, 1);
        apart.change(0, 3, 3);
        apart.change(0, 5, 5);
        apart.fill(0, 4097);
        due("three free blocks apart are no row of two", ExtentDisk.FULL, () -> apart.change(0, 1, 0));
    }

    private static void extent() {
        ExtentDisk d = withExtents(16, 1, 4095, 4096, 4097, 8192, 8193);
        int[] sizes = {1, 4095, 4096, 4097, 8192, 8193};
        int[] blocks = {1, 1, 1, 2, 2, 3};
        int first = 2;
        for (int i = 0; i < sizes.length; i++) {
            int at = i;
            due("label of " + i, i, () -> d.extent(at, 0));
            due("first block of " + i, first, () -> d.extent(at, 1));
            due("blocks of " + i, blocks[i], () -> d.extent(at, 2));
            due("bytes of " + i, sizes[i], () -> d.extent(at, 3));
            first += blocks[i];
        }
        for (int i : new int[] {-1, 6, 200, Integer.MIN_VALUE, Integer.MAX_VALUE}) {
            due("extent(" + i + ", 0)", ARGUMENT, () -> d.extent(i, 0));
        }
        for (int what : new int[] {-1, 4, Integer.MIN_VALUE, Integer.MAX_VALUE}) {
            due("extent(0, " + what + ")", ARGUMENT, () -> d.extent(0, what));
        }
        due("extent when down", ARGUMENT, () -> down().extent(0, 0));
    }

    private static void byteAt() {
        ExtentDisk d = withExtents(16, 4096, 9000);
        for (int k : new int[] {0, 1, 4095, 4096, 8191, 8192, 8999}) {
            due("byte " + k, (1 + k) & 255, () -> d.byteAt(1, k));
        }
        for (int k : new int[] {-1, 9000, 12287, Integer.MIN_VALUE, Integer.MAX_VALUE}) {
            due("byte " + k, ARGUMENT, () -> d.byteAt(1, k));
        }
        for (int i : new int[] {-1, 2, 200, Integer.MIN_VALUE, Integer.MAX_VALUE}) {
            due("a byte of extent " + i, ARGUMENT, () -> d.byteAt(i, 0));
        }
        due("byteAt when down", ARGUMENT, () -> down().byteAt(0, 0));
    }

    private static void crash() {
        ExtentDisk d = new ExtentDisk(16);
        for (int n : new int[] {-2, 1001, Integer.MIN_VALUE, Integer.MAX_VALUE}) {
            due("crash(" + n + ")", ARGUMENT, () -> crash(d, n));
        }
        due("crash(1000)", 0, () -> crash(d, 1000));
        due("crash(3)", 0, () -> crash(d, 3));
        d.fill(1, 1);
        due("two of three writes", 2, () -> d.change(0, 1, 0));
        d.fill(1, 61440);
        due("a change with no room writes nothing", ExtentDisk.FULL, () -> d.change(0, 1, 0));
        due("and leaves the power on", 0, () -> isDown(d));
        d.drop();
        due("the third write", ExtentDisk.CUT, () -> d.change(0, 1, 0));
        due("isDown", 1, () -> isDown(d));
        due("crash when down", STATE, () -> crash(d, 5));
        due("crash(NONE) when down", STATE, () -> crash(d, -1));
        due("crash when down, n wrong", ARGUMENT, () -> crash(d, 1001));
        due("recover", 1, d::recover);
        due("the third write was a manifest", 2, () -> d.count(3));
        d.crash(1);
        d.crash(ExtentDisk.NONE);
        due("NONE takes it back", 1, () -> d.change(0, 1, 0));
        d.crash(1);
        d.crash(2);
        due("the later word counts", 1, () -> d.change(0, 1, 0));
        d.crash(0);
        due("0 fails at once", 1, () -> isDown(d));
        due("and writes nothing", 5, d::writes);
    }

    private static void crashAfterAThousand() {
        ExtentDisk d = new ExtentDisk(128);
        d.crash(1000);
        for (int i = 0; i < 9; i++) {
            int label = i;
            d.fill(i, 100000);
            due("change " + i, 26, () -> d.change(label, label - 2, label - 2));
        }
        d.crash(1000);
        int left = 1000;
        for (int i = 0; i < 38; i++) {
            int label = 100 + i;
            d.fill(i, 100000);
            due("change " + label, 26, () -> d.change(label, 0, label - 2));
            left -= 26;
        }
        d.fill(0, 4096 * (left - 2));
        due("all but one of a thousand", left - 1, () -> d.change(0, 0, 136));
        due("the thousandth", ExtentDisk.CUT, () -> d.change(0, 1, 0));
        due("writes", 9 * 26 + 1000, d::writes);
    }

    private static void recover() {
        ExtentDisk d = down();
        due("recover when down", 1, d::recover);
        due("isDown behind it", 0, () -> isDown(d));
        due("the tape behind it", 0, () -> d.count(2));
        due("a note behind it", 5, () -> d.note(0));
        due("a wish behind it", 5, () -> d.wish(0, 8));
        due("an extent behind it", 3, () -> d.extent(0, 0));
        due("the changes behind it", 1, () -> d.count(3));
        d.fill(0, 7);
        d.crash(2);
        due("recover when not down", 1, d::recover);
        due("the tape is gone", 0, () -> d.count(2));
        due("the wish is gone", 5, () -> d.wish(0, 5));
        d.fill(0, 7);
        due("what crash said is forgotten", 2, () -> d.change(0, 1, 0));
        due("recover behind a change", 2, d::recover);
        due("recover again", 2, d::recover);
        due("recover writes nothing", 4, d::writes);
    }

    private static void isDownAndWrites() {
        ExtentDisk d = withExtents(8, 1, 5000);
        due("not down", 0, () -> isDown(d));
        due("5 writes", 5, d::writes);
        d.fill(0, 5000);
        d.crash(1);
        d.change(0, 1, 0);
        due("down", 1, () -> isDown(d));
        due("6 writes when down", 6, d::writes);
        d.recover();
        due("up", 0, () -> isDown(d));
        due("6 writes behind recovery", 6, d::writes);
        d.change(0, 1, 0);
        due("7 writes", 7, d::writes);
    }

    private static void countAndDoubled() {
        ExtentDisk d = withExtents(9, 1, 5000);
        d.fill(0, 77);
        int[] counts = {2, 4, 77, 2};
        for (int what = 0; what < 4; what++) {
            int at = what;
            due("count(" + what + ")", counts[what], () -> d.count(at));
            due("count(" + what + ") when down", STATE, () -> down().count(at));
        }
        for (int what : new int[] {-1, 4, Integer.MIN_VALUE, Integer.MAX_VALUE}) {
            due("count(" + what + ")", ARGUMENT, () -> d.count(what));
            due("count(" + what + ") when down", ARGUMENT, () -> down().count(what));
        }
        due("doubled", 0, d::doubled);
        due("doubled when down", STATE, () -> down().doubled());
        d.crash(1);
        d.change(0, 1, 0);
        d.recover();
        due("a cut change is not there", 2, () -> d.count(3));
        due("its blocks are free", 4, () -> d.count(1));
        due("doubled behind it", 0, d::doubled);
    }

    private static void asManyAsThereIsRoomFor() {
        ExtentDisk d = new ExtentDisk(128);
        for (int i = 0; i < 126; i++) {
            int label = i;
            d.fill(i, 1);
            due("change " + i, 2, () -> d.change(label, 1, 0));
        }
        d.fill(0, 1);
        due("one more than there is room for", ExtentDisk.FULL, () -> d.change(0, 1, 0));
        due("recover", 126, d::recover);
        due("the last one's block", 127, () -> d.extent(125, 1));
        due("the last one's byte", 125, () -> d.byteAt(125, 0));
        due("no block is free", 0, () -> d.count(1));
        due("doubled", 0, d::doubled);
    }

    public static void main(String[] args) {
        newObject();
        put();
        fill();
        drop();
        wish();
        note();
        changeTakesAway();
        changeFindsRoom();
        extent();
        byteAt();
        crash();
        crashAfterAThousand();
        recover();
        isDownAndWrites();
        countAndDoubled();
        asManyAsThereIsRoomFor();
        finish();
    }
}
