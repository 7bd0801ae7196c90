import java.util.ArrayList;
import java.util.List;
import java.util.function.IntSupplier;

/**
 * All that a heap answers, and at last what only calls that change it can tell: so a heap is asked once. That takes more
 * than the 512 calls for which the document promises something, but the class answers all calls alike.
 */
final class AllAnswers {
    private static final int MANY_FACES = 60;

    private final FlintHeap heap;
    private final List<String> answers = new ArrayList<>();
    private final int pieces;
    private final int joins;
    private final List<Integer> faces = new ArrayList<>();

    private AllAnswers(FlintHeap heap) {
        this.heap = heap;
        pieces = heap.count(0);
        int told = 0;
        while (told < 80 && isJoin(told)) {
            told++;
        }
        joins = told;
        for (int piece = 0; piece < pieces; piece++) {
            for (int k = 0; k < heap.look(piece, 4); k++) {
                faces.add(8 * piece + k);
            }
        }
    }

    private boolean isJoin(int join) {
        return Check.answer(() -> heap.joined(join, 0)) != Check.THROWN;
    }

    static List<String> of(FlintHeap heap) {
        AllAnswers all = new AllAnswers(heap);
        all.counts();
        all.ofPieces();
        all.ofFaces();
        all.ofMeetings();
        all.ofJoins();
        all.tape();
        all.marks();
        all.whatComesNext();
        return all.answers;
    }

    private void ask(String call, IntSupplier answer) {
        answers.add(call + " " + Check.answer(answer));
    }

    private void counts() {
        for (int i = 0; i < 10; i++) {
            int what = i;
            ask("count(" + i + ")", () -> heap.count(what));
        }
        for (int i = 0; i < 5; i++) {
            int layer = i;
            ask("hour(" + i + ")", () -> heap.hour(layer));
        }
    }

    private void ofPieces() {
        for (int p = 0; p < pieces; p++) {
            int piece = p;
            for (int i = 0; i <= 12; i++) {
                int what = i;
                ask("look(" + p + ", " + i + ")", () -> heap.look(piece, what));
                ask("cobble(" + p + ", " + i + ")", () -> heap.cobble(piece, what));
                ask("blow(" + p + ", " + i + ")", () -> heap.blow(piece, what));
                ask("hands(" + p + ", " + i + ")", () -> heap.hands(piece, what));
                ask("asOf(" + p + ", " + i + ")", () -> heap.asOf(piece, what));
            }
            for (int i = 0; i < 6; i++) {
                int n = 1 + i / 3;
                int what = i % 3;
                ask("seat(" + p + ", " + n + ", " + what + ")", () -> heap.seat(piece, n, what));
            }
        }
    }

    private void ofFaces() {
        for (int face : faces) {
            for (int i = 0; i < 5; i++) {
                int what = i;
                ask("of(" + face + ", " + i + ")", () -> heap.of(face, what));
                ask("candidate(" + face + ", " + i + ")", () -> heap.candidate(face, what));
            }
        }
    }

    /** Each FACE with each other one; of very many only with some. */
    private void ofMeetings() {
        for (int a = 0; a < faces.size(); a++) {
            int step = faces.size() > MANY_FACES ? 79 : 1;
            for (int b = a + 1; b < faces.size(); b += step) {
                int first = faces.get(a);
                int second = faces.get(b);
                for (int i = 0; i < 4; i++) {
                    int what = i;
                    ask("meet(" + first + ", " + second + ", " + i + ")", () -> heap.meet(first, second, what));
                }
            }
        }
    }

    private void ofJoins() {
        for (int j = 0; j < joins; j++) {
            int join = j;
            for (int i = 0; i < 8; i++) {
                int what = i;
                ask("joined(" + j + ", " + i + ")", () -> heap.joined(join, what));
            }
        }
    }

    /** What stands on the TAPE is told by reading it. */
    private void tape() {
        ask("text()", heap::text);
        for (int i = 5; i < 10; i++) {
            int what = i;
            ask("behind text() count(" + i + ")", () -> heap.count(what));
        }
        ofJoins();
    }

    private void marks() {
        tellBy("colour", 100);
        tellBy("grain", 100);
        tellBy("spots", 10);
        tellBy("fire", 2);
        tellBy("size", 201);
    }

    /** Each mark of each PIECE whose stone is not known, told by stone lines, eight values a text. */
    private void tellBy(String word, int values) {
        for (int from = 0; from < values; from += 8) {
            StringBuilder text = new StringBuilder();
            for (int i = 0; i < 8; i++) {
                text.append("stone ").append(i).append("when ").append(word).append('=').append(from + i).append(';');
            }
            Check.read(heap, text.toString());
            for (int p = 0; p < pieces; p++) {
                int piece = p;
                ask(word + " of " + p + " from " + from + " on", () -> heap.look(piece, 0));
            }
        }
    }

    private void whatComesNext() {
        ask("days(0)", () -> heap.days(0));
        ask("days(1)", () -> heap.days(1));
        ask("blind", () -> heap.blind(false));
        ask("count(4)", () -> heap.count(4));
        ask("foot", () -> heap.foot(500, 500, 50));
        ask("near", () -> heap.near(400) ? 1 : 0);
        ask("text", () -> Check.read(heap, "bar when 0 ;"));
        int step = faces.size() > MANY_FACES ? 17 : 1;
        for (int i = 0; i < faces.size(); i += step) {
            for (int k = 0; k < i; k += step) {
                int a = faces.get(i);
                int b = faces.get(k);
                ask("join(" + a + ", " + b + ")", () -> heap.join(a, b));
            }
        }
        ask("piece", () -> heap.piece(1, 2, 3, 4, 0));
        for (int p = 0; p <= pieces; p++) {
            int piece = p;
            ask("face of " + p, () -> heap.face(piece, Made.BELLY, 0, 0));
            ask("face of " + p, () -> heap.face(piece, Made.SKIN, 0, 0));
        }
    }
}
