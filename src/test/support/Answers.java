/** What tests share: a call's answer, or the exception that it throws, held against what is due. */
abstract class Answers {
    static final long ARGUMENT = Long.MIN_VALUE + 1;
    static final long STATE = Long.MIN_VALUE + 2;
    static final long OTHER = Long.MIN_VALUE + 3;
    private static int wrong = 0;

    interface Call {
        long answer();
    }

    /** Exactly the class that the document names: a class below it would be another exception. */
    static long outcome(Call call) {
        try {
            return call.answer();
        } catch (RuntimeException e) {
            return e.getClass() == IllegalArgumentException.class ? ARGUMENT
                    : e.getClass() == IllegalStateException.class ? STATE : OTHER;
        }
    }

    static String text(long answer) {
        return answer == ARGUMENT ? "throws IllegalArgumentException"
                : answer == STATE ? "throws IllegalStateException"
                : answer == OTHER ? "throws what no document names" : Long.toString(answer);
    }

    static void due(String call, long want, Call made) {
        long got = outcome(made);
        if (got != want) {
            wrong++;
            System.out.println(call + " answered " + text(got) + ", due is " + text(want));
        }
    }

    static void dueText(String what, String want, String got) {
        if (!got.equals(want)) {
            wrong++;
            System.out.println(what + ":\n  " + got + "\n  due is\n  " + want);
        }
    }

    /** One sentence of the document; what throws in it unforeseen is a fault, and ends it alone. */
    static void sentence(String words, Runnable test) {
        int before = wrong;
        try {
            test.run();
        } catch (RuntimeException e) {
            wrong++;
            System.out.println(e + " at " + e.getStackTrace()[0]);
        }
        if (wrong != before) {
            System.out.println("  so this does not hold: \"" + words + "\"");
        }
    }

    static void finish() {
        System.out.println(wrong == 0 ? "all answers are as due" : wrong + " answers are not as due");
        if (wrong != 0) {
            System.exit(1);
        }
    }

    static long crash(ExtentDisk d, int n) {
        d.crash(n);
        return 0;
    }

    static long isDown(ExtentDisk d) {
        return d.isDown() ? 1 : 0;
    }

    /** Extents with labels 0, 1, .. and bytes label, label + 1, .. */
    static ExtentDisk withExtents(int blocks, int... sizes) {
        ExtentDisk d = new ExtentDisk(blocks);
        for (int i = 0; i < sizes.length; i++) {
            d.fill(i, sizes[i]);
            d.change(i, 1, 0);
        }
        return d;
    }

    /** For tapes that are longer than one fill may be. */
    static void fillAll(ExtentDisk d, int bytes) {
        for (int left = bytes; left > 0; left -= 100000) {
            d.fill(left, Math.min(left, 100000));
        }
    }
}
