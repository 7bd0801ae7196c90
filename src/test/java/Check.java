import java.util.NoSuchElementException;
import java.util.function.IntSupplier;

/** What the project's tests tell: each answer that is not the one that is due, and the end. */
final class Check {
    /** What answer() tells of a call that threw a NoSuchElementException. */
    static final int THROWN = Integer.MIN_VALUE;

    private static int wrong = 0;
    private static int asked = 0;
    private static String under = "";

    private Check() {
    }

    /** What all answers from now on are told under. */
    static void under(String label) {
        under = label;
    }

    static int asked() {
        return asked;
    }

    static void due(String what, long got, long want) {
        asked++;
        if (got != want) {
            wrong++;
            System.out.println(under + what + " answered " + told(got) + ", due is " + told(want));
        }
    }

    static void due(String what, boolean got, boolean want) {
        due(what, got ? 1 : 0, want ? 1 : 0);
    }

    private static String told(long answer) {
        return answer == THROWN ? "a NoSuchElementException" : Long.toString(answer);
    }

    static int answer(IntSupplier call) {
        try {
            return call.getAsInt();
        } catch (NoSuchElementException e) {
            return THROWN;
        }
    }

    static void throwsNoSuch(String what, IntSupplier call) {
        due(what, answer(call), THROWN);
    }

    /** Feeds a whole text to the TAPE, 24 signs a call. */
    static int feed(FlintHeap heap, String text) {
        int signs = heap.feed(0, 0, 0);
        for (int from = 0; from < text.length(); from += 24) {
            signs = heap.feed(eight(text, from), eight(text, from + 8), eight(text, from + 16));
        }
        return signs;
    }

    static long eight(String text, int from) {
        long bytes = 0;
        for (int i = from; i < from + 8; i++) {
            bytes = bytes << 8 | (i < text.length() ? text.charAt(i) : 0);
        }
        return bytes;
    }

    static int read(FlintHeap heap, String text) {
        feed(heap, text);
        return heap.text();
    }

    static long rim(int... measures) {
        long rim = 0;
        for (int k = 0; k < 8; k++) {
            rim = rim << 8 | measures[k % measures.length];
        }
        return rim;
    }

    static void end(String name) {
        System.out.println(name + ": " + asked + " answers, " + wrong + " wrong");
        if (wrong != 0) {
            System.exit(1);
        }
    }
}
