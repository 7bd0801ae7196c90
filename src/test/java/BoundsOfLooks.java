/** Boundary cases of promises 14 and 15: look, of. */
final class BoundsOfLooks extends Bounds {
    private BoundsOfLooks() {
    }

    static void all() {
        sentence(14, "by the first stone line of the text whose E (of the PIECE) is not 0", BoundsOfLooks::firstStoneLine);
        sentence(14, "not known without one", BoundsOfLooks::notKnown);
        sentence(14, "Of one PIECE: colour, grain, spots, size: its own, fire: 1 if it is burnt, else 0; the others 0.",
                BoundsOfLooks::wordsOfOnePiece);
        sentence(14, "WHOLES: PIECES that hang together by JOINS of BREAKS; the least PIECE is its name.",
                BoundsOfLooks::leastAndGreatestWhole);
        sentence(14, "3: TURN, 4: FACES", BoundsOfLooks::noneAndAllFaces);
        sentence(14, "LOOSE is of a PIECE 10 + 400 / size, cut.", BoundsOfLooks::loose);
        sentence(14, "From the middle of its COBBLE's one SEAT a PIECE goes thus", BoundsOfLooks::withoutFeet);
        sentence(14, "if both its ways to it are 100 at most", BoundsOfLooks::ahundredAtMost);
        sentence(14, "away from it (to the greater side if there is no way)", BoundsOfLooks::awayFromAFoot);
        sentence(14, "by strength * 20 / size, cut", BoundsOfLooks::strides);
        sentence(14, "not below 0, above 999", BoundsOfLooks::edgesOfTheGround);
        sentence(14, "LEFT ALONE is a PIECE that lies at most LOOSE from where it went, along x and along y.",
                BoundsOfLooks::leftAlone);
        sentence(14, "NoSuchElementException: none such.", BoundsOfLooks::noSuchLook);
        sentence(15, "what 0: sort, 1: the FACE it is JOINED to (NONE)", BoundsOfLooks::joinedTo);
        sentence(15, "each HOLE: a SCAR of a COBBLE of two PIECES and more that is in no JOIN", BoundsOfLooks::holes);
        sentence(15, "Numbers of BLOWS: a WHOLE's: its name; a HOLE's: 100 + 8 * PIECE + FACE.",
                BoundsOfLooks::numbersOfBlows);
        sentence(15, "2: its BLOW (of a SCAR; NONE else, and of a SCAR in a COBBLE of one PIECE)",
                BoundsOfLooks::noBlow);
        sentence(15, "SPAN of a HOLE: the sum of its RIM's measures, less t, 0 at least, to it plus t.", BoundsOfLooks::span);
        sentence(15, "3, 4: from, to of a HOLE's SPAN (NONE else)", BoundsOfLooks::noSpan);
        sentence(15, "NoSuchElementException: none such.", BoundsOfLooks::noSuchFace);
    }

    private static FlintHeap unknown() {
        FlintHeap h = new FlintHeap();
        h.piece(NONE, 50, 50, 50, 0);
        return h;
    }

    private static void firstStoneLine() {
        String[] texts = {"stone 3 when 1; stone 4 when 1;", "stone 3 when 0; stone 4 when 1;", "stone 3 when 0-1; stone 4 when 1;",
            "stone 0 when 2; stone 7 when 1;", "bar when 1; doubt 5 when 1; stone 6 when 1;",
            "stone 1 when 0;".repeat(23) + "stone 2 when 1;", "let aa=0; stone 1 when aa; let bb=1; stone 5 when bb;"};
        int[] stones = {3, 4, 3, 0, 6, 2, 5};
        FlintHeap h = unknown();
        h.piece(1, 50, 50, 50, 0);
        for (int i = 0; i < texts.length; i++) {
            due("text " + texts[i], read(h, texts[i]), 0);
            due("stone by " + texts[i], h.look(0, 0), stones[i]);
            due("a known one stays", h.look(1, 0), 1);
        }
    }

    private static void notKnown() {
        FlintHeap h = unknown();
        due("no text", h.look(0, 0), NONE);
        read(h, "stone 3 when 0;".repeat(24));
        due("no line that holds", h.look(0, 0), NONE);
        read(h, "bar when 1; doubt 3 when 1;");
        due("no stone line", h.look(0, 0), NONE);
        read(h, "stone 3 when 1;");
        due("known by a line", h.look(0, 0), 3);
        h.text();
        due("not known any more", h.look(0, 0), NONE);
    }

    private static void wordsOfOnePiece() {
        FlintHeap h = new FlintHeap();
        h.piece(NONE, 200, 999, 999, 4);
        flat(h, 0, BREAK, 99);
        h.marks(0, 99, 98, 9, true, 9);
        String[] words = {"colour", "grain", "spots", "fire", "size", "gap", "small", "great", "far", "layers", "burnt",
            "breaks"};
        int[] worths = {99, 98, 9, 1, 200, 0, 0, 0, 0, 0, 0, 0};
        for (int i = 0; i < words.length; i++) {
            read(h, "stone 1 when " + words[i] + "=" + worths[i] + "; stone 0 when 1;");
            due(words[i] + " is " + worths[i], h.look(0, 0), 1);
        }
        h.marks(0, 0, 0, 0, false, 0);
        read(h, "stone 1 when fire=0; stone 0 when 1;");
        due("fire of one that is not burnt", h.look(0, 0), 1);
        ofOnePieceBehindAMeeting();
    }

    /** A meeting in which no word of one is 0 leaves nothing of it for a PIECE. */
    private static void ofOnePieceBehindAMeeting() {
        FlintHeap h = new FlintHeap();
        h.piece(NONE, 200, 999, 999, 4);
        h.piece(NONE, 100, 0, 0, 0);
        flat(h, 0, BREAK, 10);
        flat(h, 1, BREAK, 11);
        h.marks(0, 99, 98, 9, true, 9);
        String[] words = {"gap", "small", "great", "far", "layers", "burnt", "breaks"};
        for (String word : words) {
            read(h, "doubt 5 when " + word + ";");
            due(word + " of the meeting is not 0", h.meet(0, 8, 3), 5);
            read(h, "doubt 5 when 1; stone 1 when " + word + "=0; stone 0 when 1;");
            due("DOUBT", h.meet(0, 8, 3), 5);
            due(word + " of a PIECE", h.look(1, 0), 1);
        }
    }

    private static void leastAndGreatestWhole() {
        FlintHeap h = Made.broken(40, 2);
        for (int piece = 39; piece > 0; piece--) {
            due("a single one", h.look(piece, 2), piece);
            h.join(8 * piece, 8 * piece - 7);
        }
        for (int piece = 0; piece < 40; piece++) {
            due("all 40", h.look(piece, 2), 0);
        }
        due("one WHOLE", h.cobble(39, 1), 1);
        h.part(19);
        due("the least of one half", h.look(19, 2), 0);
        due("the least of the other half", h.look(39, 2), 20);
        FlintHeap struck = Made.struck(3);
        due("a BELLY and a SCAR make no WHOLE", struck.look(3, 2), 3);
        due("but a COBBLE", struck.look(3, 1), 0);
    }

    private static void noneAndAllFaces() {
        FlintHeap h = Made.pieces(40);
        due("no FACE", h.look(39, 4), 0);
        for (int k = 1; k <= 8; k++) {
            h.face(39, SCAR, 0, 0);
            due(k + " FACES", h.look(39, 4), k);
        }
        h.face(39, SCAR, 0, 0);
        due("8 at most", h.look(39, 4), 8);
        due("TURN of a single one", h.look(39, 3), 0);
        due("no FACE of the one ahead", h.look(38, 4), 0);
    }

    private static void loose() {
        int[][] rows = {{1, 410}, {2, 210}, {3, 143}, {7, 67}, {133, 13}, {134, 12}, {199, 12}, {200, 12}};
        for (int[] r : rows) {
            FlintHeap h = new FlintHeap();
            h.piece(0, r[0], 0, 0, 0);
            due("LOOSE of size " + r[0], h.look(0, 8), r[1]);
        }
    }

    private static void wentTo(FlintHeap h, int piece, int x, int y) {
        due("x where " + piece + " went", h.look(piece, 6), x);
        due("y where " + piece + " went", h.look(piece, 7), y);
    }

    private static void withoutFeet() {
        int[][] corners = {{0, 0, 50, 50}, {999, 0, 950, 50}, {0, 999, 50, 950}, {999, 999, 950, 950}, {555, 111, 550, 150}};
        for (int[] c : corners) {
            FlintHeap h = new FlintHeap();
            h.piece(0, 200, c[0], c[1], 0);
            wentTo(h, 0, c[2], c[3]);
        }
        FlintHeap both = new FlintHeap();
        both.piece(0, 200, 50, 50, 0);
        both.piece(0, 200, 250, 50, 0);
        both.join(flat(both, 0, BREAK, 5), flat(both, 1, BREAK, 5));
        // Either cell has the COST 188, the one between 2 * 88 = 176.
        wentTo(both, 0, 150, 50);
        wentTo(both, 1, 150, 50);
        FlintHeap apart = new FlintHeap();
        apart.piece(0, 200, 150, 250, 0);
        apart.piece(0, 200, 350, 450, 0);
        due("x of 0", apart.look(0, 6), 150);
        due("y of 1", apart.look(1, 7), 450);
        due("x of 0, behind 1", apart.look(0, 6), 150);
        due("x of 1", apart.look(1, 6), 350);
        due("y of 0, behind 1", apart.look(0, 7), 250);
    }

    /** A PIECE of size 20 whose SEAT is at 450, 450: a FOOT moves it by its strength. */
    private static FlintHeap at450(int x, int y, int strength) {
        FlintHeap h = new FlintHeap();
        h.piece(0, 20, 450, 450, 0);
        due("a FOOT", h.foot(x, y, strength), 1);
        return h;
    }

    private static void ahundredAtMost() {
        int[][] near = {{350, 450, 457, 457}, {550, 450, 443, 457}, {450, 350, 457, 457}, {450, 550, 457, 443},
            {350, 350, 457, 457}, {550, 550, 443, 443}};
        for (int[] f : near) {
            wentTo(at450(f[0], f[1], 7), 0, f[2], f[3]);
        }
        int[][] far = {{349, 450}, {551, 450}, {450, 349}, {450, 551}, {349, 551}, {350, 551}, {551, 550}, {0, 999}};
        for (int[] f : far) {
            wentTo(at450(f[0], f[1], 7), 0, 450, 450);
        }
        // A FOOT that the one ahead brought within 100, and one that it brought out of it.
        FlintHeap within = at450(440, 440, 1);
        within.foot(551, 450, 7);
        wentTo(within, 0, 444, 458);
        FlintHeap without = at450(440, 440, 1);
        without.foot(350, 450, 7);
        wentTo(without, 0, 451, 451);
    }

    private static void awayFromAFoot() {
        wentTo(at450(449, 451, 7), 0, 457, 443);
        wentTo(at450(451, 449, 7), 0, 443, 457);
        wentTo(at450(450, 450, 7), 0, 457, 457);
        wentTo(at450(450, 451, 7), 0, 457, 443);
        wentTo(at450(451, 450, 7), 0, 443, 457);
    }

    private static void strides() {
        int[][] rows = {{1, 1, 20}, {1, 99, 1980}, {200, 9, 0}, {200, 10, 1}, {200, 99, 9}, {3, 1, 6}, {21, 1, 0}, {20, 1, 1},
            {7, 3, 8}};
        for (int[] r : rows) {
            FlintHeap h = new FlintHeap();
            h.piece(0, r[0], 450, 450, 0);
            int seat = 50 + 100 * (h.seat(0, 1, 1) % 10);
            h.foot(seat, seat, r[1]);
            int due = Math.min(999, seat + r[2]);
            wentTo(h, 0, due, due);
        }
    }

    private static void edgesOfTheGround() {
        // From 950 by 48, 49, 50: 998, 999, 999. From 50 by 49, 50, 51: 1, 0, 0.
        int[][] rows = {{950, 48, 998}, {950, 49, 999}, {950, 50, 999}, {950, 99, 999}, {50, 49, 1}, {50, 50, 0}, {50, 51, 0},
            {50, 99, 0}};
        for (int[] r : rows) {
            int foot = r[0] == 50 ? 60 : 940;
            FlintHeap alongX = new FlintHeap();
            alongX.piece(0, 20, r[0], 450, 0);
            alongX.foot(foot, 450, r[1]);
            wentTo(alongX, 0, r[2], 450 + r[1]);
            FlintHeap alongY = new FlintHeap();
            alongY.piece(0, 20, 450, r[0], 0);
            alongY.foot(450, foot, r[1]);
            wentTo(alongY, 0, 450 + r[1], r[2]);
        }
    }

    private static void leftAlone() {
        // LOOSE of size 40 is 20; all of these have the SEAT at 450, 450.
        int[][] rows = {{450, 450, 1}, {470, 450, 1}, {471, 450, 0}, {430, 450, 1}, {429, 450, 0}, {450, 470, 1}, {450, 471, 0},
            {450, 430, 1}, {450, 429, 0}, {470, 430, 1}, {471, 471, 0}};
        for (int[] r : rows) {
            FlintHeap h = new FlintHeap();
            h.piece(0, 40, r[0], r[1], 0);
            wentTo(h, 0, 450, 450);
            due("LEFT ALONE at " + r[0] + ", " + r[1], h.look(0, 5), r[2]);
        }
        // A FOOT moves it by 1: what lay at LOOSE is left behind.
        FlintHeap moved = new FlintHeap();
        moved.piece(0, 20, 420, 420, 0);
        due("at LOOSE", moved.look(0, 5), 1);
        moved.foot(450, 460, 1);
        wentTo(moved, 0, 451, 449);
        due("1 beyond LOOSE along x", moved.look(0, 5), 0);
    }

    private static void look(int piece, int what) {
        refused("look(" + piece + ", " + what + ")", Made::rich, THROWN, h -> h.look(piece, what));
    }

    private static void noSuchLook() {
        for (int piece : new int[] {-1, 7, 40, MIN, MAX}) {
            for (int what = 0; what < 9; what++) {
                look(piece, what);
            }
        }
        for (int what : new int[] {-1, 9, MIN, MAX}) {
            look(0, what);
        }
        refused("look(40, 1) of 40", () -> Made.pieces(40), THROWN, h -> h.look(40, 1));
    }

    private static void joinedTo() {
        FlintHeap h = Made.broken(40, 8);
        due("of none", h.of(0, 1), NONE);
        h.join(319, 0);
        due("the last FACE of all", h.of(0, 1), 319);
        due("the first FACE of all", h.of(319, 1), 0);
        due("the others of none", h.of(1, 1), NONE);
        h.part(0);
        due("PARTED", h.of(0, 1), NONE);
        due("PARTED", h.of(319, 1), NONE);
        for (int sort = 0; sort < 4; sort++) {
            FlintHeap one = Made.pieces(1);
            flat(one, 0, sort, 5);
            due("sort " + sort, one.of(0, 0), sort);
        }
    }

    private static void holes() {
        FlintHeap h = Made.pieces(3);
        h.near(0);
        int scar = flat(h, 0, SCAR, 5);
        due("a COBBLE of one PIECE has no HOLE", h.cobble(0, 2), 0);
        h.join(flat(h, 0, BREAK, 7), flat(h, 1, BREAK, 7));
        due("a COBBLE of two has it", h.cobble(0, 2), 1);
        due("its BLOW", h.of(scar, 2), 100 + scar);
        h.join(scar, flat(h, 2, BELLY, 5));
        due("a SCAR in a JOIN is none", h.cobble(0, 2), 0);
        due("its BLOW", h.of(scar, 2), 2);
        h.part(1);
        due("PARTED, it is one again", h.cobble(0, 2), 1);
        due("its BLOW", h.of(scar, 2), 100 + scar);
        h.part(0);
        due("alone, it is none", h.cobble(0, 2), 0);
        due("its BLOW", h.of(scar, 2), NONE);
    }

    private static void numbersOfBlows() {
        FlintHeap first = Made.pieces(2);
        flat(first, 0, SCAR, 50);
        first.join(flat(first, 0, BREAK, 5), flat(first, 1, BREAK, 5));
        due("the least number of a HOLE", first.of(0, 2), 100);
        orderIs(first, 1, 0, 100);
        FlintHeap last = Made.broken(40, 7);
        int scar = flat(last, 39, SCAR, 50);
        last.join(8 * 39, 8 * 38);
        due("the greatest number of a HOLE", last.of(scar, 2), 100 + 319);
        orderIs(last, 39, 38, 419);
        FlintHeap struck = Made.struck(2);
        due("a WHOLE's name", struck.of(0, 2), 1);
        due("a WHOLE's name", struck.of(1, 2), 2);
        struck.join(flat(struck, 2, BREAK, 90), flat(struck, 1, BREAK, 90));
        due("the WHOLE of the BELLY", struck.of(1, 2), 1);
        struck.join(flat(struck, 0, BREAK, 95), flat(struck, 1, BREAK, 95));
        due("the least number of a WHOLE", struck.of(1, 2), 0);
    }

    private static void noBlow() {
        FlintHeap h = Made.struck(1);
        flat(h, 0, SKIN, 5);
        flat(h, 0, BREAK, 5);
        due("of a SCAR", h.of(0, 2), 1);
        due("of a BELLY in a JOIN", h.of(8, 2), NONE);
        due("of a SKIN", h.of(1, 2), NONE);
        due("of a BREAK", h.of(2, 2), NONE);
        FlintHeap alone = Made.pieces(2);
        flat(alone, 0, SCAR, 5);
        due("of a SCAR in a COBBLE of one PIECE", alone.of(0, 2), NONE);
    }

    /** A HOLE with this sum of measures; its FACE is 1. */
    private static FlintHeap holeOf(int sum, int t) {
        FlintHeap h = Made.struck(1);
        int[] rim = new int[8];
        for (int k = 0; k < 8; k++) {
            rim[k] = sum / 8 + (k < sum % 8 ? 1 : 0);
        }
        faceOf(h, 0, SCAR, rim);
        h.near(t);
        return h;
    }

    private static void span() {
        int[][] rows = {{0, 0, 0, 0}, {0, 400, 0, 400}, {30, 29, 1, 59}, {30, 30, 0, 60}, {30, 31, 0, 61}, {792, 0, 792, 792},
            {792, 400, 392, 1192}, {399, 400, 0, 799}, {400, 400, 0, 800}, {401, 400, 1, 801}};
        for (int[] r : rows) {
            FlintHeap h = holeOf(r[0], r[1]);
            due("from, of " + r[0] + " and t " + r[1], h.of(1, 3), r[2]);
            due("to, of " + r[0] + " and t " + r[1], h.of(1, 4), r[3]);
        }
        FlintHeap first = Made.struck(1);
        faceOf(first, 0, SCAR, 1, 0, 0, 0, 0, 0, 0, 98);
        due("t 0, from", first.of(1, 3), 99);
        spanAtFirst();
    }

    private static void spanAtFirst() {
        FlintHeap h = Made.pieces(2);
        flat(h, 0, SCAR, 10);
        h.join(flat(h, 0, BREAK, 5), flat(h, 1, BREAK, 5));
        h.marks(0, 0, 0, 0, true, 0);
        due("t at first, burnt or not, from", h.of(0, 3), 60);
        due("t at first, burnt or not, to", h.of(0, 4), 100);
    }

    private static void noSpan() {
        FlintHeap h = Made.struck(1);
        flat(h, 0, SKIN, 5);
        flat(h, 0, BREAK, 5);
        int alone = flat(h, plain(h), SCAR, 5);
        int hole = flat(h, 1, SCAR, 5);
        for (int what = 3; what <= 4; what++) {
            due("of a SCAR in a JOIN", h.of(0, what), NONE);
            due("of a BELLY", h.of(8, what), NONE);
            due("of a SKIN", h.of(1, what), NONE);
            due("of a BREAK", h.of(2, what), NONE);
            due("of a SCAR in a COBBLE of one PIECE", h.of(alone, what), NONE);
            due("of a HOLE", h.of(hole, what), 40);
        }
    }

    private static void of(int face, int what) {
        refused("of(" + face + ", " + what + ")", Made::rich, THROWN, h -> h.of(face, what));
    }

    private static void noSuchFace() {
        for (int face : new int[] {-1, 4, 7, 10, 50, 56, 320, MIN, MAX}) {
            for (int what = 0; what < 5; what++) {
                of(face, what);
            }
        }
        for (int what : new int[] {-1, 5, MIN, MAX}) {
            of(0, what);
            of(48, what);
        }
        refused("of(320, 0) of a full heap", () -> Made.broken(40, 8), THROWN, h -> h.of(320, 0));
    }
}
