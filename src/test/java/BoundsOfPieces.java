/** Boundary cases of promises 1 to 5: a new object, days, piece, marks, face. */
final class BoundsOfPieces extends Bounds {
    private BoundsOfPieces() {
    }

    static void all() {
        sentence(1, "No PIECE; NOW is 0.", BoundsOfPieces::nothingIsThere);
        sentence(1, "`NONE = -1`: None.", BoundsOfPieces::none);
        sentence(1, "An object is used for at most 512 calls after it has been made", BoundsOfPieces::the512thCall);
        sentence(2, "n DAYS pass (0 to 100): NOW", BoundsOfPieces::upToAHundredDays);
        sentence(2, "NONE for another n", BoundsOfPieces::anotherN);
        sentence(2, "beyond 999", BoundsOfPieces::beyondTheLastDay);
        sentence(2, "DAYS are 0 to 999; NOW is one, 0 at first", BoundsOfPieces::firstAndLastDay);
        sentence(3, "A PIECE more (stone NONE: not known): its number", BoundsOfPieces::numbersOfPieces);
        sentence(3, "a stone (0 to 7, or not known)", BoundsOfPieces::stones);
        sentence(3, "a size (1 to 200)", BoundsOfPieces::sizes);
        sentence(3, "a place x, y (0 to 999 each)", BoundsOfPieces::places);
        sentence(3, "a layer (0 to 4)", BoundsOfPieces::layers);
        sentence(3, "PIECES, 40 at most", BoundsOfPieces::fortyPieces);
        sentence(3, "NONE: other numbers, 40 are there", BoundsOfPieces::otherNumbersOfAPiece);
        sentence(4, "colour, grain (0 to 99 each), spots (0 to 9), burnt or not, faults of its maker (0 to 9)",
                BoundsOfPieces::leastAndGreatestMarks);
        sentence(4, "all 0, not burnt, at first", BoundsOfPieces::noMarksAtFirst);
        sentence(4, "Colour, grain, spots, burnt, faults of a PIECE: true", BoundsOfPieces::marksOfOnePiece);
        sentence(4, "false: none such, other numbers", BoundsOfPieces::wrongMarks);
        sentence(5, "FACES of a PIECE, 8 at most", BoundsOfPieces::eightFaces);
        sentence(5, "a sort (0 SCAR, 1 BELLY, 2 SKIN, 3 BREAK)", BoundsOfPieces::sorts);
        sentence(5, "a RIM of 8 measures (0 to 99) round about", BoundsOfPieces::leastAndGreatestMeasures);
        sentence(5, "a RIPPLE (0 to 7: towards which of the 8 places of the RIM it runs)", BoundsOfPieces::ripples);
        sentence(5, "one BELLY at most", BoundsOfPieces::oneBelly);
        sentence(5, "its RIM the bytes of rim, the highest first, as measure 0, 1, ..", BoundsOfPieces::bytesOfARim);
        sentence(5, "its number there", BoundsOfPieces::numbersOfFaces);
        sentence(5, "NONE: no such PIECE, other numbers, a measure above 99, 8 are there, a second BELLY",
                BoundsOfPieces::refusedFaces);
    }

    private static void nothingIsThere() {
        FlintHeap h = new FlintHeap();
        for (int what = 0; what < 10; what++) {
            due("count(" + what + ")", h.count(what), what == 4 ? NONE : 0);
        }
        for (int layer = 0; layer < 5; layer++) {
            due("hour(" + layer + ")", h.hour(layer), layer);
        }
        due("days(0)", h.days(0), 0);
        refused("look(0, 1)", Made::empty, THROWN, g -> g.look(0, 1));
        refused("cobble(0, 0)", Made::empty, THROWN, g -> g.cobble(0, 0));
        refused("seat(0, 1, 0)", Made::empty, THROWN, g -> g.seat(0, 1, 0));
        refused("of(0, 0)", Made::empty, THROWN, g -> g.of(0, 0));
        refused("meet(0, 8, 0)", Made::empty, THROWN, g -> g.meet(0, 8, 0));
        refused("joined(0, 0)", Made::empty, THROWN, g -> g.joined(0, 0));
        refused("face(0, 0, 0, 0)", Made::empty, NONE, g -> g.face(0, 0, 0, 0));
        refused("candidate(0, 0)", Made::empty, NONE, g -> g.candidate(0, 0));
        refused("join(0, 8)", Made::empty, NONE, g -> g.join(0, 8));
        refused("asOf(0, 0)", Made::empty, NONE, g -> g.asOf(0, 0));
        refused("blow(0, 0)", Made::empty, NONE, g -> g.blow(0, 0));
        refused("hands(0, 0)", Made::empty, NONE, g -> g.hands(0, 0));
        denied("marks(0, ..)", Made::empty, g -> g.marks(0, 0, 0, 0, false, 0));
        denied("part(0)", Made::empty, g -> g.part(0));
        denied("cuts(0, 1, 1)", Made::empty, g -> g.cuts(0, 1, 1));
    }

    private static void none() {
        due("NONE", FlintHeap.NONE, -1);
    }

    /** 511 calls that fill a heap; the 512th is still answered as is due. */
    private static void the512thCall() {
        FlintHeap h = new FlintHeap();
        int calls = 0;
        for (int i = 0; i < 40; i++, calls++) {
            due("piece", plain(h), i);
        }
        for (int i = 0; i < 320; i++, calls++) {
            due("face", flat(h, i / 8, BREAK, 5), i);
        }
        for (int i = 0; i < 80; i++, calls++) {
            due("join", h.join(16 * (i / 4) + i % 4, 16 * (i / 4) + 8 + i % 4), i);
        }
        for (int i = 1; i <= 20; i++, calls++) {
            due("foot", h.foot(i, i, i), i);
        }
        for (int i = 1; calls < 511; i++, calls++) {
            due("blind", h.blind(i % 2 == 0), i);
        }
        due("calls ahead", calls, 511);
        due("the 512th", h.joined(79, 1), 16 * 19 + 11);
    }

    private static void upToAHundredDays() {
        FlintHeap h = new FlintHeap();
        due("days(0)", h.days(0), 0);
        due("days(1)", h.days(1), 1);
        due("days(100)", h.days(100), 101);
        due("days(99)", h.days(99), 200);
        due("days(0)", h.days(0), 200);
        due("NOW", h.count(7), 200);
    }

    private static void anotherN() {
        for (int n : new int[] {-1, 101, -100, 999, MIN, MAX}) {
            refused("days(" + n + ")", Made::rich, NONE, h -> h.days(n));
        }
    }

    private static void beyondTheLastDay() {
        due("days(100) on 899", Made.onDay(899).days(100), 999);
        due("days(99) on 900", Made.onDay(900).days(99), 999);
        due("days(0) on 999", Made.onDay(999).days(0), 999);
        refused("days(100) on 900", () -> Made.onDay(900), NONE, h -> h.days(100));
        refused("days(1) on 999", () -> Made.onDay(999), NONE, h -> h.days(1));
        refused("days(100) on 999", () -> Made.onDay(999), NONE, h -> h.days(100));
        refused("days(MAX) on 999", () -> Made.onDay(999), NONE, h -> h.days(MAX));
    }

    private static void firstAndLastDay() {
        FlintHeap h = Made.onDay(999);
        due("JOINED on", h.joined(0, 3), 0);
        due("PARTED", h.part(0), true);
        due("PARTED on", h.joined(0, 4), 999);
        due("asOf(1, 998)", h.asOf(1, 998), 0);
        due("asOf(1, 999)", h.asOf(1, 999), 1);
        due("JOINED once more", h.join(0, 8), 1);
        due("JOINED on", h.joined(1, 3), 999);
        due("asOf(1, 999)", h.asOf(1, 999), 0);
        due("asOf(1, 1000)", h.asOf(1, 1000), NONE);
    }

    private static void numbersOfPieces() {
        FlintHeap h = new FlintHeap();
        due("the first", h.piece(NONE, 1, 0, 0, 0), 0);
        due("a wrong one", h.piece(NONE, 0, 0, 0, 0), NONE);
        due("the second, behind a wrong one", h.piece(3, 1, 0, 0, 0), 1);
        due("stone of the first", h.look(0, 0), NONE);
        due("stone of the second", h.look(1, 0), 3);
    }

    private static void piece(int stone, int size, int x, int y, int layer) {
        String call = "piece(" + stone + ", " + size + ", " + x + ", " + y + ", " + layer + ")";
        refused(call, Made::rich, NONE, h -> h.piece(stone, size, x, y, layer));
    }

    private static void stones() {
        FlintHeap h = new FlintHeap();
        for (int stone = -1; stone <= 7; stone++) {
            due("piece of stone " + stone, h.piece(stone, 1, 0, 0, 0), stone + 1);
            due("its stone", h.look(stone + 1, 0), stone);
        }
        for (int stone : new int[] {-2, 8, MIN, MAX}) {
            piece(stone, 50, 50, 50, 0);
        }
    }

    private static void sizes() {
        FlintHeap h = new FlintHeap();
        due("size 1", h.piece(NONE, 1, 0, 0, 0), 0);
        due("size 200", h.piece(NONE, 200, 0, 0, 0), 1);
        read(h, "stone 1 when size = 1 ; stone 2 when size = 200 ;");
        due("it is 1", h.look(0, 0), 1);
        due("it is 200", h.look(1, 0), 2);
        for (int size : new int[] {0, 201, -1, MIN, MAX}) {
            piece(0, size, 50, 50, 0);
        }
    }

    private static void places() {
        int[][] corners = {{0, 0, 0}, {999, 0, 9}, {0, 999, 90}, {999, 999, 99}};
        for (int[] c : corners) {
            FlintHeap h = new FlintHeap();
            due("a PIECE at " + c[0] + ", " + c[1], h.piece(0, 200, c[0], c[1], 0), 0);
            due("its SEAT", h.seat(0, 1, 1), c[2]);
            due("a PIECE across", h.piece(0, 200, 999 - c[0], 500, 0), 1);
            int a = flat(h, 0, BREAK, 5);
            int b = flat(h, 1, BREAK, 5);
            read(h, "doubt 1 when far = 999 ;");
            due("they are 999 apart", h.meet(a, b, 3), 1);
        }
        for (int place : new int[] {-1, 1000, MIN, MAX}) {
            piece(0, 50, place, 50, 0);
            piece(0, 50, 50, place, 0);
        }
    }

    private static void layers() {
        FlintHeap h = new FlintHeap();
        due("layer 0", h.piece(0, 50, 50, 50, 0), 0);
        due("layer 4", h.piece(0, 50, 50, 50, 4), 1);
        h.join(flat(h, 0, BREAK, 5), flat(h, 1, BREAK, 5));
        due("hour(4)", h.hour(4), 0);
        for (int layer : new int[] {-1, 5, MIN, MAX}) {
            piece(0, 50, 50, 50, layer);
        }
    }

    private static void fortyPieces() {
        FlintHeap h = Made.pieces(39);
        due("the 40th", plain(h), 39);
        due("40 are there", h.count(0), 40);
        due("the last one is alone", h.look(39, 1), 39);
        due("the last one has a FACE", h.face(39, SCAR, 0, 0), 0);
        due("the last one has marks", h.marks(39, 1, 1, 1, true, 1), true);
    }

    private static void otherNumbersOfAPiece() {
        refused("the 41st", () -> Made.pieces(40), NONE, Made::plain);
        refused("the 41st of 40 with 8 BREAKS", () -> Made.broken(40, 8), NONE, Made::plain);
        piece(8, 201, 1000, 1000, 5);
        piece(-2, 0, -1, -1, -1);
    }

    /** Which of these a PIECE has, told by stone lines. */
    private static void marksAre(FlintHeap h, int piece, int colour, int grain, int spots, int fire) {
        read(h, "stone 1 when colour =" + colour + "; stone 0 when 1;");
        due("colour " + colour, h.look(piece, 0), 1);
        read(h, "stone 1 when grain =" + grain + "; stone 0 when 1;");
        due("grain " + grain, h.look(piece, 0), 1);
        read(h, "stone 1 when spots =" + spots + "; stone 0 when 1;");
        due("spots " + spots, h.look(piece, 0), 1);
        read(h, "stone 1 when fire =" + fire + "; stone 0 when 1;");
        due("fire " + fire, h.look(piece, 0), 1);
    }

    private static void leastAndGreatestMarks() {
        FlintHeap h = new FlintHeap();
        h.piece(NONE, 50, 50, 50, 0);
        due("the greatest", h.marks(0, 99, 99, 9, true, 9), true);
        marksAre(h, 0, 99, 99, 9, 1);
        due("faults", h.cobble(0, 7), 9);
        due("the least", h.marks(0, 0, 0, 0, false, 0), true);
        marksAre(h, 0, 0, 0, 0, 0);
        due("faults", h.cobble(0, 7), 0);
        for (int wrong : new int[] {-1, MIN, MAX}) {
            marks(0, wrong, 0, 0, 0);
            marks(0, 0, wrong, 0, 0);
            marks(0, 0, 0, wrong, 0);
            marks(0, 0, 0, 0, wrong);
        }
        marks(0, 100, 0, 0, 0);
        marks(0, 0, 100, 0, 0);
        marks(0, 0, 0, 10, 0);
        marks(0, 0, 0, 0, 10);
    }

    private static void marks(int piece, int colour, int grain, int spots, int faults) {
        String call = "marks(" + piece + ", " + colour + ", " + grain + ", " + spots + ", true, " + faults + ")";
        denied(call, Made::rich, h -> h.marks(piece, colour, grain, spots, true, faults));
    }

    private static void noMarksAtFirst() {
        FlintHeap h = new FlintHeap();
        h.piece(NONE, 50, 50, 50, 0);
        marksAre(h, 0, 0, 0, 0, 0);
        due("faults", h.cobble(0, 7), 0);
    }

    private static void marksOfOnePiece() {
        FlintHeap h = new FlintHeap();
        for (int i = 0; i < 3; i++) {
            h.piece(NONE, 50, 50, 50, 0);
        }
        due("marks", h.marks(1, 5, 6, 7, true, 8), true);
        marksAre(h, 0, 0, 0, 0, 0);
        marksAre(h, 1, 5, 6, 7, 1);
        marksAre(h, 2, 0, 0, 0, 0);
        due("faults of the one ahead", h.cobble(0, 7), 0);
        due("faults", h.cobble(1, 7), 8);
        due("faults of the one behind", h.cobble(2, 7), 0);
        due("marks, the same once more", h.marks(1, 5, 6, 7, true, 8), true);
    }

    private static void wrongMarks() {
        for (int piece : new int[] {-1, 7, 40, MIN, MAX}) {
            marks(piece, 50, 50, 5, 5);
        }
        marks(7, 100, 100, 10, 10);
        denied("marks(40, ..) of 40", () -> Made.pieces(40), h -> h.marks(40, 1, 1, 1, true, 1));
    }

    private static void eightFaces() {
        FlintHeap h = Made.broken(40, 7);
        for (int piece = 0; piece < 40; piece += 39) {
            due("7 are there", h.look(piece, 4), 7);
            due("the eighth", h.face(piece, SKIN, 0, 0), 7);
            due("8 are there", h.look(piece, 4), 8);
            due("the ninth", h.face(piece, SKIN, 0, 0), NONE);
        }
        due("the last FACE of all", h.of(319, 0), SKIN);
        due("the others have 7", h.look(38, 4), 7);
    }

    private static void face(int piece, int sort, long rim, int ripple) {
        String call = "face(" + piece + ", " + sort + ", " + Long.toHexString(rim) + ", " + ripple + ")";
        refused(call, Made::rich, NONE, h -> h.face(piece, sort, rim, ripple));
    }

    private static void sorts() {
        FlintHeap h = Made.pieces(1);
        for (int sort = 0; sort < 4; sort++) {
            due("a FACE of sort " + sort, h.face(0, sort, 0, 0), sort);
            due("its sort", h.of(sort, 0), sort);
        }
        for (int sort : new int[] {-1, 4, MIN, MAX}) {
            face(0, sort, 0, 0);
        }
    }

    private static void leastAndGreatestMeasures() {
        FlintHeap h = Made.struck(1);
        h.near(0);
        for (int k = 0; k < 8; k++) {
            int[] rim = new int[8];
            rim[k] = 99;
            int at = k;
            FlintHeap one = Made.pieces(1);
            due("99 as measure " + k, one.face(0, SCAR, Check.rim(rim), 0), 0);
            for (int above : new int[] {100, 127, 128, 255}) {
                rim[at] = above;
                face(0, SKIN, Check.rim(rim), 0);
            }
        }
        int least = flat(h, 0, SCAR, 0);
        int greatest = flat(h, 1, SCAR, 99);
        due("8 measures of 0", h.of(least, 3), 0);
        due("8 measures of 99", h.of(greatest, 3), 8 * 99);
    }

    private static void ripples() {
        FlintHeap h = Made.pieces(2);
        int level = rippled(h, 1, SKIN, 5, 0);
        for (int ripple = 0; ripple < 8; ripple++) {
            due("RIPPLE " + ripple, h.face(0, SKIN, Check.rim(5), ripple), ripple);
            due("it runs there", h.meet(ripple, level, 1), ripple);
        }
        for (int ripple : new int[] {-1, 8, MIN, MAX}) {
            face(0, SKIN, 0, ripple);
        }
    }

    private static void oneBelly() {
        FlintHeap h = Made.pieces(2);
        for (int k = 0; k < 7; k++) {
            flat(h, 0, SCAR, 5);
        }
        due("the first BELLY, as the eighth FACE", h.face(0, BELLY, 0, 0), 7);
        due("another PIECE has one, too", h.face(1, BELLY, 0, 0), 0);
        due("not two", h.face(1, BELLY, 0, 0), NONE);
        due("other sorts still come", h.face(1, SCAR, 0, 0), 1);
        due("not two, though another FACE is between", h.face(1, BELLY, 0, 0), NONE);
        due("SCARS, SKINS, BREAKS: more than one", h.face(1, SCAR, 0, 0), 2);
    }

    private static void bytesOfARim() {
        FlintHeap h = Made.pieces(2);
        int first = 8 * 0 + h.face(0, SKIN, 0x6300000000000000L, 0);
        int last = 8 * 0 + h.face(0, SKIN, 0x0000000000000063L, 0);
        int level = 8 * 1 + h.face(1, SKIN, 0x6300000000000000L, 0);
        // Measure 0 of the one lies on measure 0 of the other at TURN 0, measure 7 at TURN 7.
        due("the highest byte is measure 0", h.meet(first, level, 1), 0);
        due("the lowest byte is measure 7", h.meet(last, level, 1), 7);
    }

    private static void numbersOfFaces() {
        FlintHeap h = Made.pieces(2);
        due("the first of 1", h.face(1, SKIN, 0, 0), 0);
        due("the first of 0", h.face(0, SCAR, 0, 0), 0);
        due("a wrong one", h.face(0, SCAR, 100, 0), NONE);
        due("the second of 0, behind a wrong one", h.face(0, BREAK, 0, 0), 1);
        due("sort of the first of 0", h.of(0, 0), SCAR);
        due("sort of the first of 1", h.of(8, 0), SKIN);
    }

    private static void refusedFaces() {
        for (int piece : new int[] {-1, 7, 40, MIN, MAX, MAX / 8 + 1}) {
            face(piece, SCAR, 0, 0);
        }
        face(0, SCAR, -1L, 0);
        face(1, BELLY, 0, 0);
        refused("a ninth FACE", () -> Made.broken(2, 8), NONE, h -> h.face(0, SCAR, 0, 0));
        refused("a ninth FACE of the last of 40", () -> Made.broken(40, 8), NONE, h -> h.face(39, SCAR, 0, 0));
        refused("a second BELLY of a struck PIECE", () -> Made.struck(2), NONE, h -> h.face(2, BELLY, 0, 0));
    }
}
