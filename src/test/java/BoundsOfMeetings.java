/** Boundary cases of promises 8 to 10: near, meet, candidate. */
final class BoundsOfMeetings extends Bounds {
    private BoundsOfMeetings() {
    }

    static void all() {
        sentence(8, "t: true; false: another one.", BoundsOfMeetings::near);
        sentence(8, "their GAP is at most t (0 to 400, 20 at first", BoundsOfMeetings::atMostT);
        sentence(9, "the sum over k from 0 to 7 of how far measure (r - k) modulo 8 of f is from measure k of g",
                BoundsOfMeetings::eachTurn);
        sentence(9, "5 times the way on the ring of 8 from (r - RIPPLE of f) modulo 8 to the RIPPLE of g (the shorter one)",
                BoundsOfMeetings::theShorterWay);
        sentence(9, "The GAP is the least such sum, the TURN the least r that has it.", BoundsOfMeetings::leastSumLeastTurn);
        sentence(9, "(Of g against f the TURN is the same one.)", BoundsOfMeetings::sameTurn);
        sentence(9, "Two FACES MAY MEET if they are of two PIECES, and a SCAR and a BELLY, or two BREAKS",
                BoundsOfMeetings::sortsThatMeet);
        sentence(9, "the stones of the PIECES are the same one (as in 5; not known meets all)",
                BoundsOfMeetings::stonesThatMeet);
        sentence(9, "10 more for each of both that is burnt", BoundsOfMeetings::burntOnes);
        sentence(9, "no bar line of the text holds", BoundsOfMeetings::barLines);
        sentence(9, "what 0: GAP, 1: TURN, 2: 1 if they MAY MEET, else 0, 3: DOUBT (0 if they may not)",
                BoundsOfMeetings::leastAndGreatestAnswers);
        sentence(9, "NoSuchElementException: none such, of one PIECE.", BoundsOfMeetings::noSuchMeeting);
        sentence(9, "gap: theirs", BoundsOfMeetings::gapOfTheirs);
        sentence(9, "small: the size of the PIECE with the BELLY (of BREAKS the lesser size), great: that of the other one",
                BoundsOfMeetings::smallAndGreat);
        sentence(9, "far: the greater of how far x and y of the PIECES are apart; layers: how far their layers are",
                BoundsOfMeetings::farAndLayers);
        sentence(9, "burnt: how many of both are burnt; breaks: 1 of BREAKS, else 0", BoundsOfMeetings::burntAndBreaks);
        sentence(9, "colour, grain, spots, size: how far those of both are apart; fire: the same as burnt",
                BoundsOfMeetings::marksApart);
        sentence(9, "DOUBT of a meeting: the sum of N of all doubt lines whose E is not 0.", BoundsOfMeetings::doubt);
        sentence(10, "The i-th FACE, by PIECES, then FACES, that MAY MEET one now", BoundsOfMeetings::candidates);
        sentence(10, "NONE: none such.", BoundsOfMeetings::noCandidate);
    }

    private static void near() {
        FlintHeap h = Made.struck(1);
        flat(h, 0, SCAR, 99);
        due("near(0)", h.near(0), true);
        due("t is 0", h.of(1, 4), 792);
        due("near(400)", h.near(400), true);
        due("t is 400", h.of(1, 4), 1192);
        for (int t : new int[] {-1, 401, MIN, MAX}) {
            denied("near(" + t + ")", Made::rich, g -> g.near(t));
            denied("near(" + t + ") at t 0", () -> Made.struck(3), g -> g.near(t));
        }
    }

    /** Two PIECES whose BREAKS have this GAP, up to 792. */
    private static FlintHeap withGap(int gap) {
        FlintHeap h = Made.pieces(2);
        flat(h, 0, BREAK, 0);
        int[] rim = new int[8];
        for (int k = 0; k < 8; k++) {
            rim[k] = gap / 8 + (k < gap % 8 ? 1 : 0);
        }
        faceOf(h, 1, BREAK, rim);
        return h;
    }

    private static void meetsUpTo(FlintHeap h, int gap, boolean meets) {
        due("GAP", h.meet(0, 8, 0), gap);
        due("GAP " + gap + ": MAY MEET", h.meet(0, 8, 2), meets ? 1 : 0);
        due("the other way", h.meet(8, 0, 2), meets ? 1 : 0);
        due("candidate", h.candidate(0, 0), meets ? 8 : NONE);
        due("join", h.join(0, 8), meets ? 0 : NONE);
    }

    private static void atMostT() {
        meetsUpTo(withGap(20), 20, true);
        meetsUpTo(withGap(21), 21, false);
        for (int t : new int[] {0, 1, 19, 399, 400}) {
            FlintHeap at = withGap(t);
            at.near(t);
            meetsUpTo(at, t, true);
            FlintHeap above = withGap(t + 1);
            above.near(t);
            meetsUpTo(above, t + 1, false);
        }
    }

    private static void burntOnes() {
        for (int t : new int[] {0, 20, 400}) {
            for (int burnt = 0; burnt < 4; burnt++) {
                int most = t + 10 * Integer.bitCount(burnt);
                meetsUpTo(burn(withGap(most), t, burnt), most, true);
                meetsUpTo(burn(withGap(most + 1), t, burnt), most + 1, false);
            }
        }
    }

    private static FlintHeap burn(FlintHeap h, int t, int which) {
        h.near(t);
        h.marks(0, 0, 0, 0, (which & 1) != 0, 0);
        h.marks(1, 0, 0, 0, (which & 2) != 0, 0);
        return h;
    }

    private static void eachTurn() {
        int[] rim = {1, 12, 23, 34, 45, 56, 67, 78};
        for (int turn = 0; turn < 8; turn++) {
            FlintHeap h = Made.pieces(2);
            int[] other = new int[8];
            for (int k = 0; k < 8; k++) {
                other[k] = rim[(turn - k + 8) % 8];
            }
            int f = faceOf(h, 0, SKIN, rim);
            int g = 8 + h.face(1, SKIN, Check.rim(other), turn);
            due("GAP at TURN " + turn, h.meet(f, g, 0), 0);
            due("TURN " + turn, h.meet(f, g, 1), turn);
        }
        FlintHeap one = Made.pieces(2);
        int f = faceOf(one, 0, SKIN, 50, 0, 0, 0, 0, 0, 0, 0);
        int g = faceOf(one, 1, SKIN, 51, 0, 0, 0, 0, 0, 0, 0);
        due("one measure is 1 off", one.meet(f, g, 0), 1);
    }

    private static void theShorterWay() {
        int[] ways = {0, 1, 2, 3, 4, 3, 2, 1};
        for (int ripple = 0; ripple < 8; ripple++) {
            for (int other = 0; other < 8; other++) {
                FlintHeap h = Made.pieces(2);
                // The RIMS hold the TURN at 0: so the way is from (0 - RIPPLE of f) to the RIPPLE of g.
                int f = 8 * 0 + h.face(0, SKIN, Check.rim(99, 0, 0, 0, 0, 0, 0, 0), ripple);
                int g = 8 * 1 + h.face(1, SKIN, Check.rim(99, 0, 0, 0, 0, 0, 0, 0), other);
                due("GAP of RIPPLES " + ripple + ", " + other, h.meet(f, g, 0), 5 * ways[(ripple + other) % 8]);
                int level = rippled(h, 0, SKIN, 7, ripple);
                int next = rippled(h, 1, SKIN, 7, other);
                due("GAP of flat ones", h.meet(level, next, 0), 0);
                due("TURN of flat ones", h.meet(level, next, 1), (ripple + other) % 8);
            }
        }
    }

    private static void leastSumLeastTurn() {
        FlintHeap h = Made.pieces(2);
        // TURNS 0 and 4 fit the RIMS alike, and their RIPPLES are 2 off alike.
        int f = faceOf(h, 0, SKIN, 20, 0, 0, 0, 20, 0, 0, 0);
        int g = 8 + h.face(1, SKIN, Check.rim(20, 0, 0, 0, 20, 0, 0, 0), 2);
        due("GAP", h.meet(f, g, 0), 10);
        due("of 0 and 4 the least", h.meet(f, g, 1), 0);
        int turned = faceOf(h, 0, SKIN, 0, 20, 0, 0, 0, 20, 0, 0);
        int other = 8 + h.face(1, SKIN, Check.rim(20, 0, 0, 0, 20, 0, 0, 0), 3);
        due("GAP", h.meet(turned, other, 0), 10);
        due("of 1 and 5 the least", h.meet(turned, other, 1), 1);
        // RIPPLES that fit at 7 alone.
        due("7 is the last", h.meet(rippled(h, 0, SKIN, 5, 7), rippled(h, 1, SKIN, 5, 0), 1), 7);
        due("the least sum, not the RIPPLES'", h.meet(faceOf(h, 0, SKIN, 30, 0), rippledRim(h, 1), 1), 0);
    }

    /** A RIM that fits (30, 0, 30, ..) at even TURNS, with a RIPPLE that asks for TURN 1: 0 and 2 are 5 off. */
    private static int rippledRim(FlintHeap h, int piece) {
        return 8 * piece + h.face(piece, SKIN, Check.rim(30, 0), 1);
    }

    private static void sameTurn() {
        int[][] rims = {{1, 2, 3, 4, 5, 6, 7, 8}, {9, 0, 9, 0, 3, 3, 0, 1}, {0, 0, 0, 0, 0, 0, 0, 99}, {5}};
        for (int[] first : rims) {
            for (int[] second : rims) {
                for (int ripple = 0; ripple < 8; ripple++) {
                    FlintHeap h = Made.pieces(2);
                    int f = 8 * 0 + h.face(0, SKIN, Check.rim(first), ripple);
                    int g = 8 * 1 + h.face(1, SKIN, Check.rim(second), 3);
                    due("TURN both ways", h.meet(f, g, 1), h.meet(g, f, 1));
                    due("GAP both ways", h.meet(f, g, 0), h.meet(g, f, 0));
                }
            }
        }
    }

    private static void sortsThatMeet() {
        for (int a = 0; a < 4; a++) {
            for (int b = 0; b < 4; b++) {
                boolean meets = a == SCAR && b == BELLY || a == BELLY && b == SCAR || a == BREAK && b == BREAK;
                FlintHeap h = Made.pieces(2);
                flat(h, 0, a, 5);
                flat(h, 1, b, 5);
                due("sorts " + a + " and " + b, h.meet(0, 8, 2), meets ? 1 : 0);
                due("candidate", h.candidate(0, 0), meets ? 8 : NONE);
                due("join", h.join(0, 8), meets ? 0 : NONE);
            }
        }
        FlintHeap one = Made.pieces(1);
        flat(one, 0, BREAK, 5);
        flat(one, 0, BREAK, 5);
        flat(one, 0, SCAR, 5);
        flat(one, 0, BELLY, 5);
        for (int face = 0; face < 4; face++) {
            due("candidate of one PIECE", one.candidate(face, 0), NONE);
            for (int other = 0; other < 4; other++) {
                due("join of one PIECE", one.join(face, other), NONE);
            }
        }
    }

    private static void stonesThatMeet() {
        for (int a = -1; a < 8; a++) {
            for (int b = -1; b < 8; b++) {
                FlintHeap h = new FlintHeap();
                h.piece(a, 50, 50, 50, 0);
                h.piece(b, 50, 50, 50, 0);
                flat(h, 0, BREAK, 5);
                flat(h, 1, BREAK, 5);
                due("stones " + a + " and " + b, h.meet(0, 8, 2), a == b || a == NONE || b == NONE ? 1 : 0);
                read(h, "stone 7 when 1;");
                int x = a == NONE ? 7 : a;
                int y = b == NONE ? 7 : b;
                due("stones " + a + " and " + b + " by the text", h.meet(0, 8, 2), x == y ? 1 : 0);
            }
        }
    }

    private static void barLines() {
        FlintHeap h = Made.broken(2, 1);
        due("no text", h.meet(0, 8, 2), 1);
        String[] texts = {"bar when 0;", "bar when 1;", "bar when 2;", "bar when 0-1;", "doubt 9 when 1;",
            "let aa=1;bar when not aa;", "bar when 0;".repeat(23) + "bar when 1;", "bar when 0;".repeat(24),
            "bar when 1;" + "bar when 0;".repeat(23), "stone 1 when 1;"};
        int[] meets = {1, 0, 0, 0, 1, 1, 0, 1, 0, 1};
        for (int i = 0; i < texts.length; i++) {
            read(h, texts[i]);
            due(texts[i], h.meet(0, 8, 2), meets[i]);
        }
        read(h, "bar when 0<gap;");
        due("gap of 0", h.meet(0, 8, 2), 1);
        FlintHeap one = withGap(1);
        read(one, "bar when 0<gap;");
        due("gap of 1", one.meet(0, 8, 2), 0);
    }

    private static void leastAndGreatestAnswers() {
        FlintHeap least = withGap(0);
        due("the least GAP", least.meet(0, 8, 0), 0);
        due("its TURN", least.meet(0, 8, 1), 0);
        FlintHeap most = withGap(792);
        due("the greatest GAP", most.meet(0, 8, 0), 792);
        due("its TURN", most.meet(0, 8, 1), 0);
        due("they may not", most.meet(0, 8, 2), 0);
        read(most, "doubt 9 when 1;");
        due("DOUBT of those that may not", most.meet(0, 8, 3), 0);
        read(least, "doubt 9 when 1;");
        due("DOUBT of those that may", least.meet(0, 8, 3), 9);
        FlintHeap last = Made.broken(40, 8);
        due("the first and the last FACE of all", last.meet(0, 319, 2), 1);
        due("they are JOINED, which changes nothing", last.join(0, 319), 0);
        due("the first and the last FACE of all", last.meet(319, 0, 2), 1);
    }

    private static void meet(int a, int b, int what) {
        refused("meet(" + a + ", " + b + ", " + what + ")", Made::rich, THROWN, h -> h.meet(a, b, what));
    }

    private static void noSuchMeeting() {
        for (int face : new int[] {-1, 4, 7, 10, 56, 319, 320, MIN, MAX, -8}) {
            meet(face, 8, 0);
            meet(8, face, 2);
        }
        for (int what : new int[] {-1, 4, MIN, MAX}) {
            meet(0, 8, what);
        }
        for (int what = 0; what < 4; what++) {
            meet(0, 1, what);
            meet(0, 0, what);
            meet(19, 16, what);
        }
        refused("meet(0, 320, 0) of a full heap", () -> Made.broken(40, 8), THROWN, h -> h.meet(0, 320, 0));
    }

    /** Two PIECES with FACES 0, 8 that meet as BREAKS, 1, 9 as SCAR and BELLY; all FACES fit. */
    private static FlintHeap two(int[] first, int[] second) {
        FlintHeap h = new FlintHeap();
        h.near(400);
        int[][] both = {first, second};
        for (int p = 0; p < 2; p++) {
            h.piece(0, both[p][0], both[p][1], both[p][2], both[p][3]);
            flat(h, p, BREAK, 5);
            flat(h, p, p == 0 ? SCAR : BELLY, 5);
        }
        return h;
    }

    private static void wordIs(FlintHeap h, String word, int worth, boolean breaks) {
        read(h, "doubt 1 when " + word + "=" + worth + ";");
        int a = breaks ? 0 : 1;
        due(word + " is " + worth, h.meet(a, 8 + a, 3), 1);
        due(word + " is " + worth + " the other way", h.meet(8 + a, a, 3), 1);
    }

    private static void gapOfTheirs() {
        for (int gap : new int[] {0, 1, 7, 20, 399, 400, 420}) {
            FlintHeap h = burn(withGap(gap), 400, 3);
            read(h, "doubt 1 when gap=" + gap + ";doubt 2 when gap<" + gap + ";");
            due("gap is " + gap, h.meet(0, 8, 3), 1);
            due("gap is " + gap + " the other way", h.meet(8, 0, 3), 1);
            read(h, "bar when gap=" + gap + ";");
            due("a bar line by gap " + gap, h.meet(0, 8, 2), 0);
            read(h, "bar when gap<" + gap + " or " + gap + "<gap;");
            due("a bar line by another gap", h.meet(0, 8, 2), 1);
        }
    }

    private static void smallAndGreat() {
        FlintHeap h = two(new int[] {1, 0, 0, 0}, new int[] {200, 0, 0, 0});
        wordIs(h, "small", 1, true);
        wordIs(h, "great", 200, true);
        wordIs(h, "small", 200, false);
        wordIs(h, "great", 1, false);
        FlintHeap turned = two(new int[] {200, 0, 0, 0}, new int[] {1, 0, 0, 0});
        wordIs(turned, "small", 1, true);
        wordIs(turned, "great", 200, true);
        wordIs(turned, "small", 1, false);
        wordIs(turned, "great", 200, false);
        FlintHeap like = two(new int[] {7, 0, 0, 0}, new int[] {7, 0, 0, 0});
        wordIs(like, "small", 7, true);
        wordIs(like, "great", 7, true);
    }

    private static void farAndLayers() {
        int[][] rows = {{0, 0, 0, 0, 0}, {999, 0, 0, 999, 0}, {0, 999, 4, 999, 4}, {999, 999, 4, 999, 4}, {3, 4, 1, 4, 1},
            {4, 3, 1, 4, 1}};
        for (int[] r : rows) {
            FlintHeap h = two(new int[] {7, 0, 0, 0}, new int[] {7, r[0], r[1], r[2]});
            FlintHeap turned = two(new int[] {7, r[0], r[1], r[2]}, new int[] {7, 0, 0, 0});
            for (int i = 0; i < 2; i++) {
                wordIs(h, "far", r[3], i == 0);
                wordIs(h, "layers", r[4], i == 0);
                wordIs(turned, "far", r[3], i == 0);
                wordIs(turned, "layers", r[4], i == 0);
            }
        }
    }

    private static void burntAndBreaks() {
        for (int burnt = 0; burnt < 4; burnt++) {
            FlintHeap h = burn(two(new int[] {7, 0, 0, 0}, new int[] {7, 0, 0, 0}), 20, burnt);
            wordIs(h, "burnt", Integer.bitCount(burnt), true);
            wordIs(h, "burnt", Integer.bitCount(burnt), false);
            wordIs(h, "breaks", 1, true);
            wordIs(h, "breaks", 0, false);
        }
    }

    private static void marksApart() {
        for (int way = 0; way < 2; way++) {
            FlintHeap h = two(new int[] {way == 0 ? 1 : 200, 0, 0, 0}, new int[] {way == 0 ? 200 : 1, 0, 0, 0});
            h.marks(way, 99, 99, 9, false, 0);
            wordIs(h, "colour", 99, true);
            wordIs(h, "grain", 99, false);
            wordIs(h, "spots", 9, true);
            wordIs(h, "size", 199, false);
            wordIs(h, "fire", 0, true);
            h.marks(way, 99, 99, 9, true, 0);
            wordIs(h, "fire", 1, false);
            h.marks(1 - way, 99, 99, 9, true, 0);
            wordIs(h, "fire", 2, true);
            wordIs(h, "colour", 0, false);
            wordIs(h, "grain", 0, true);
            wordIs(h, "spots", 0, false);
        }
    }

    private static void doubt() {
        FlintHeap h = Made.broken(2, 1);
        due("no line", h.meet(0, 8, 3), 0);
        read(h, "doubt 9 when 0;");
        due("no line that holds", h.meet(0, 8, 3), 0);
        read(h, "doubt 9 when 0-1; doubt 8 when 0; doubt 7 when 2;");
        due("lines that hold, below 0 too", h.meet(0, 8, 3), 16);
        read(h, "doubt 99 when 1;".repeat(24));
        due("24 lines of 99", h.meet(0, 8, 3), 24 * 99);
    }

    private static void candidates() {
        FlintHeap h = Made.broken(40, 8);
        for (int i = 0; i < 312; i++) {
            due("candidate(0, " + i + ")", h.candidate(0, i), 8 + i);
            due("candidate(319, " + i + ")", h.candidate(319, i), i);
            due("candidate(8, " + i + ")", h.candidate(8, i), i < 8 ? i : 8 + i);
        }
        for (int face : new int[] {0, 8, 319}) {
            due("candidate(" + face + ", 312)", h.candidate(face, 312), NONE);
        }
        FlintHeap now = withGap(30);
        due("not yet", now.candidate(0, 0), NONE);
        now.near(30);
        due("now", now.candidate(0, 0), 8);
        now.near(29);
        due("no more", now.candidate(0, 0), NONE);
    }

    private static void candidate(int face, int i) {
        refused("candidate(" + face + ", " + i + ")", Made::rich, NONE, h -> h.candidate(face, i));
    }

    private static void noCandidate() {
        FlintHeap h = Made.rich();
        due("the only one", h.candidate(3, 0), 49);
        candidate(3, 1);
        candidate(3, -1);
        candidate(3, MIN);
        candidate(3, MAX);
        candidate(48, 0);
        for (int face : new int[] {-1, 4, 10, 56, 320, MIN, MAX}) {
            candidate(face, 0);
        }
        refused("candidate(320, 0) of a full heap", () -> Made.broken(40, 8), NONE, g -> g.candidate(320, 0));
        due("one PIECE alone", Made.broken(1, 8).candidate(0, 0), NONE);
    }
}
