import java.util.function.IntBinaryOperator;

/** A heap filled up to every limit: nothing is thrown at the edges, and all is as NaiveHeap tells it. */
public final class FullHeapTest {
    private final FlintHeap heap = new FlintHeap();
    private final NaiveHeap naive = new NaiveHeap();

    private FullHeapTest() {
    }

    public static void main(String[] args) {
        FullHeapTest test = new FullHeapTest();
        test.fill();
        Check.due("all PIECES in one COBBLE", test.heap.cobble(39, 0), 40);
        Check.due("all JOINS came", test.heap.joined(79, 2) >= 0 ? test.heap.join(0, 0) : 0, FlintHeap.NONE);
        Check.due("lines of the text", test.heap.count(5), 24);
        test.askAll();
        test.partSome();
        test.askAll();
        Check.end("FullHeapTest");
    }

    /** 40 PIECES of 8 FACES in one chain: BELLIES to SCARS and BREAKS to BREAKS, 80 JOINS in all, 20 FEET. */
    private void fill() {
        both("near", heap.near(0) ? 1 : 0, naive.near(0) ? 1 : 0);
        for (int i = 0; i < 41; i++) {
            both("piece", heap.piece(-1, 5 * i + 1 > 200 ? 200 : 5 * i + 1, 25 * i % 1000, 999 - 24 * i, i % 5),
                    naive.piece(-1, 5 * i + 1 > 200 ? 200 : 5 * i + 1, 25 * i % 1000, 999 - 24 * i, i % 5));
        }
        int[] sorts = {1, 0, 3, 3, 0, 0, 2, 0, 0};
        for (int i = 0; i < 40; i++) {
            boolean burnt = i % 7 == 0;
            both("marks", heap.marks(i, i, 99 - i, i % 10, burnt, i * i % 10) ? 1 : 0,
                    naive.marks(i, i, 99 - i, i % 10, burnt, i * i % 10) ? 1 : 0);
            for (int k = 0; k < 9; k++) {
                long rim = Check.rim(k == 0 || k == 1 ? 2 * i + k : k == 2 || k == 3 ? 2 * i + 3 - k : 99, i % 4);
                both("face", heap.face(i, sorts[k], rim, (i + k) % 8), naive.face(i, sorts[k], rim, (i + k) % 8));
            }
        }
        both("near", heap.near(400) ? 1 : 0, naive.near(400) ? 1 : 0);
        for (int i = 0; i < 39; i++) {
            join(8 * i + 1, 8 * i + 8);
            join(8 * i + 11, 8 * i + 2);
        }
        for (int i = 0; i < 2; i++) {
            part(i);
            join(8 * i + 4, 8 * i + 9);
            join(8 * (i / 2) + 1 + i % 2 * 10, 8 * (i / 2) + 8 - i % 2 * 6);
        }
        for (int i = 0; i < 40; i++) {
            cuts(8 * i + 4, 8 * i + 5, 1 + i % 9);
            cuts(8 * i + 5, 8 * i + 7, 1 + i % 8);
            cuts(8 * i + 7, 8 * i + 4, 1 + i % 7);
            cuts(8 * i + 7, 8 * i + 1, 9);
        }
        for (int i = 0; i < 21; i++) {
            both("foot", heap.foot(45 * i, 999 - 45 * i, 99 - i), naive.foot(45 * i, 999 - 45 * i, 99 - i));
        }
        StringBuilder text = new StringBuilder();
        for (int i = 0; i < 8; i++) {
            text.append("let v").append((char) ('a' + i)).append("=gap*").append(i).append("+size;");
        }
        for (int i = 0; i < 16; i++) {
            text.append("doubt ").append(6 * i + 1).append(" when v").append((char) ('a' + i % 8)).append('<');
            text.append(10 * i).append("+far or not(colour=").append(i).append(");");
        }
        while (text.length() < 1000) {
            text.append(' ');
        }
        for (int from = 0; from < 1008; from += 24) {
            long a = Check.eight(text.toString(), from);
            long b = Check.eight(text.toString(), from + 8);
            long c = Check.eight(text.toString(), from + 16);
            both("feed", heap.feed(a, b, c), naive.feed(a, b, c));
        }
        both("text", heap.text(), naive.text());
    }

    private void both(String call, int got, int want) {
        Check.due(call, got, want);
    }

    private void join(int a, int b) {
        both("join(" + a + ", " + b + ")", heap.join(a, b), naive.join(a, b));
    }

    private void part(int join) {
        both("part", heap.part(join) ? 1 : 0, naive.part(join) ? 1 : 0);
    }

    private void cuts(int a, int b, int weight) {
        both("cuts", heap.cuts(a, b, weight) ? 1 : 0, naive.cuts(a, b, weight) ? 1 : 0);
    }

    private void partSome() {
        for (int i = 0; i < 80; i++) {
            if (i % 5 < 3) {
                part(i);
            }
        }
        both("days", heap.days(100), naive.days(100));
    }

    private void askAll() {
        for (int piece = 39; piece >= 0; piece -= 3) {
            ask("look", piece, 8, heap::look, naive::look);
            ask("cobble", piece, 7, heap::cobble, naive::cobble);
            ask("blow", piece, 12, heap::blow, naive::blow);
            ask("hands", piece, 40, heap::hands, naive::hands);
            ask("asOf", piece, 1, heap::asOf, naive::asOf);
        }
        for (int face = 319; face >= 0; face -= 13) {
            ask("of", face, 4, heap::of, naive::of);
            ask("candidate", face, 2, heap::candidate, naive::candidate);
        }
        for (int join = 79; join >= 0; join -= 9) {
            ask("joined", join, 7, heap::joined, naive::joined);
        }
        for (int what = 0; what <= 10; what++) {
            both("count(" + what + ")", heap.count(what), naive.count(what));
            both("hour(" + what + ")", heap.hour(what), naive.hour(what));
        }
        for (int what = 0; what <= 2; what++) {
            both("seat", heap.seat(39, 2, what), naive.seat(39, 2, what));
            both("meet", heap.meet(1, 312, what), naive.meet(1, 312, what));
        }
    }

    private static void ask(String call, int of, int last, IntBinaryOperator ours, IntBinaryOperator theirs) {
        for (int what = 0; what <= last; what++) {
            Check.due(call + "(" + of + ", " + what + ")", ours.applyAsInt(of, what), theirs.applyAsInt(of, what));
        }
    }
}
