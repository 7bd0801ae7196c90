/** Heaps for the tests, each made anew by the same calls. */
final class Made {
    static final int SCAR = 0;
    static final int BELLY = 1;
    static final int SKIN = 2;
    static final int BREAK = 3;

    private Made() {
    }

    static int plain(FlintHeap h) {
        return h.piece(0, 50, 50, 50, 0);
    }

    /** A FACE with one measure all round; its number as 8 * PIECE + FACE. */
    static int flat(FlintHeap h, int piece, int sort, int measure) {
        return rippled(h, piece, sort, measure, 0);
    }

    static int rippled(FlintHeap h, int piece, int sort, int measure, int ripple) {
        return 8 * piece + h.face(piece, sort, Check.rim(measure), ripple);
    }

    static FlintHeap empty() {
        return new FlintHeap();
    }

    static FlintHeap pieces(int n) {
        FlintHeap h = new FlintHeap();
        for (int i = 0; i < n; i++) {
            plain(h);
        }
        return h;
    }

    /** PIECES in a row, each with so many BREAKS that may all meet. */
    static FlintHeap broken(int pieces, int breaks) {
        FlintHeap h = pieces(pieces);
        for (int face = 0; face < pieces * breaks; face++) {
            flat(h, face / breaks, BREAK, 5);
        }
        return h;
    }

    /** The core 0 with so many SCARS, the i-th one JOINED to the BELLY of the PIECE i + 1. */
    static FlintHeap struck(int flakes) {
        FlintHeap h = pieces(flakes + 1);
        h.near(0);
        for (int i = 0; i < flakes; i++) {
            h.join(flat(h, 0, SCAR, 10 * i), flat(h, i + 1, BELLY, 10 * i));
        }
        return h;
    }

    static FlintHeap onDay(int day) {
        FlintHeap h = struck(1);
        for (int left = day; left > 0; left -= 100) {
            h.days(Math.min(left, 100));
        }
        return h;
    }

    /**
     * Something of everything: the core 0 with the flakes 1 and 2 and HOLES, 3 broken off 2 with an OPEN JOIN, 4 struck
     * off 5, 6 alone behind a PARTED JOIN, a quarrel, a text, signs on the TAPE, FEET and BLIND trials.
     */
    static FlintHeap rich() {
        FlintHeap h = new FlintHeap();
        richPieces(h);
        richFaces(h);
        h.days(3);
        h.join(0, 8);
        h.join(16, 1);
        h.join(17, 24);
        h.join(25, 18);
        h.join(40, 32);
        h.join(3, 49);
        h.days(4);
        h.part(5);
        h.days(2);
        h.cuts(0, 1, 4);
        h.cuts(1, 2, 5);
        h.cuts(2, 0, 3);
        h.cuts(41, 40, 9);
        Check.read(h, "let wide = 20 < far ; bar when 90 < colour ; doubt 7 when wide ; doubt 3 when not wide ;"
                + "stone 4 when 50 < grain ; stone 5 when fire ;");
        Check.feed(h, "doubt 9 when gap < 40 ; bar when spots = 9 ;");
        h.foot(140, 120, 33);
        h.foot(640, 600, 50);
        h.blind(true);
        h.blind(false);
        h.blind(true);
        return h;
    }

    private static void richPieces(FlintHeap h) {
        int[][] told = {{-1, 60, 120, 130, 0}, {-1, 20, 180, 140, 1}, {-1, 30, 90, 330, 2}, {2, 25, 400, 410, 2},
            {-1, 10, 700, 720, 3}, {-1, 80, 650, 640, 4}, {-1, 15, 999, 0, 4}};
        for (int[] p : told) {
            int piece = h.piece(p[0], p[1], p[2], p[3], p[4]);
            h.marks(piece, 11 * piece + 3, 13 * piece + 1, piece, piece == 4, 7 - piece);
        }
    }

    private static void richFaces(FlintHeap h) {
        int[][] told = {{0, SCAR, 10, 0}, {0, SCAR, 20, 0}, {0, SCAR, 30, 0}, {0, BREAK, 40, 0}, {1, BELLY, 10, 2},
            {1, SCAR, 33, 0}, {2, BELLY, 20, 1}, {2, BREAK, 50, 0}, {2, BREAK, 60, 0}, {2, SCAR, 70, 0},
            {3, BREAK, 50, 0}, {3, BREAK, 60, 1}, {4, BELLY, 90, 3}, {4, SCAR, 80, 0}, {5, SCAR, 90, 0}, {5, SCAR, 85, 0},
            {6, SKIN, 5, 0}, {6, BREAK, 40, 7}};
        for (int[] f : told) {
            rippled(h, f[0], f[1], f[2], f[3]);
        }
    }

    /** So many signs on the TAPE, all blanks. */
    static FlintHeap tape(int signs) {
        FlintHeap h = new FlintHeap();
        Check.feed(h, " ".repeat(signs));
        return h;
    }

    static FlintHeap feet(int n) {
        FlintHeap h = rich();
        for (int i = 2; i < n; i++) {
            h.foot(30 * i, 999 - 30 * i, i);
        }
        return h;
    }

    static FlintHeap trials(int n) {
        FlintHeap h = new FlintHeap();
        for (int i = 0; i < n; i++) {
            h.blind(i % 2 == 0);
        }
        return h;
    }
}
