import java.util.List;
import java.util.TreeSet;
import java.util.function.Supplier;
import java.util.function.ToIntFunction;

/** What the tests of boundary cases share: each of them holds one sentence of one promise. */
abstract class Bounds {
    static final int NONE = FlintHeap.NONE;
    static final int THROWN = Check.THROWN;
    static final int MIN = Integer.MIN_VALUE;
    static final int MAX = Integer.MAX_VALUE;
    static final int SCAR = Made.SCAR;
    static final int BELLY = Made.BELLY;
    static final int SKIN = Made.SKIN;
    static final int BREAK = Made.BREAK;

    private static final TreeSet<Integer> PROMISES = new TreeSet<>();
    private static int sentences = 0;

    /** A test of its own for a sentence; the document must say it, there or in its terms. */
    static void sentence(int promise, String words, Runnable test) {
        Check.under("Promise " + promise + ", \"" + words + "\": ");
        Check.due("the document says so", Document.says(promise, words), true);
        int before = Check.asked();
        test.run();
        Check.due("the test asks something", Check.asked() > before, true);
        Check.under("");
        PROMISES.add(promise);
        sentences++;
    }

    static void end(String name) {
        for (int promise = 1; promise <= 25; promise++) {
            Check.due("tests of promise " + promise, PROMISES.contains(promise), true);
        }
        System.out.println(sentences + " sentences, each with a test of its own");
        Check.end(name);
    }

    static void due(String what, long got, long want) {
        Check.due(what, got, want);
    }

    static void due(String what, boolean got, boolean want) {
        Check.due(what, got, want);
    }

    /** The call is answered so, and a twin of the heap that was not asked answers all else alike. */
    static void refused(String call, Supplier<FlintHeap> made, int due, ToIntFunction<FlintHeap> refusedCall) {
        FlintHeap asked = made.get();
        Check.due(call, Check.answer(() -> refusedCall.applyAsInt(asked)), due);
        List<String> got = AllAnswers.of(asked);
        List<String> want = AllAnswers.of(made.get());
        for (int i = 0; i < want.size(); i++) {
            if (!got.get(i).equals(want.get(i))) {
                Check.due("behind a refused " + call + " \"" + got.get(i) + "\" where \"" + want.get(i) + "\" is due: alike",
                        false, true);
                return;
            }
        }
        Check.due("all answers behind a refused " + call, got.size(), want.size());
    }

    /** The same for a call that answers true or false. */
    static void denied(String call, Supplier<FlintHeap> made, java.util.function.Predicate<FlintHeap> deniedCall) {
        refused(call, made, 0, h -> deniedCall.test(h) ? 1 : 0);
    }

    static int plain(FlintHeap h) {
        return Made.plain(h);
    }

    static int flat(FlintHeap h, int piece, int sort, int measure) {
        return Made.flat(h, piece, sort, measure);
    }

    static int rippled(FlintHeap h, int piece, int sort, int measure, int ripple) {
        return Made.rippled(h, piece, sort, measure, ripple);
    }

    static int faceOf(FlintHeap h, int piece, int sort, int... rim) {
        return 8 * piece + h.face(piece, sort, Check.rim(rim), 0);
    }

    static int read(FlintHeap h, String text) {
        return Check.read(h, text);
    }

    static void orderIs(FlintHeap h, int piece, int... due) {
        for (int i = 0; i < due.length; i++) {
            Check.due("blow(" + piece + ", " + i + ")", h.blow(piece, i), due[i]);
        }
        Check.due("blow(" + piece + ", " + due.length + ")", h.blow(piece, due.length), NONE);
    }
}
