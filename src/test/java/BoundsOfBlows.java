/** Boundary cases of promises 17 to 19: cuts, cobble, blow. */
final class BoundsOfBlows extends Bounds {
    private BoundsOfBlows() {
    }

    static void all() {
        sentence(17, "CUTS: told of two SCARS of one PIECE, with a weight (1 to 9", BoundsOfBlows::weights);
        sentence(17, "anew in place of one told for these two, whichever way", BoundsOfBlows::anew);
        sentence(17, "weight 0: nothing is told of these two", BoundsOfBlows::nothingTold);
        sentence(17, "the first cuts the second: its BLOW came behind that of the second", BoundsOfBlows::behind);
        sentence(17, "CUTS of SCARS with the same BLOW don't count.", BoundsOfBlows::sameBlow);
        sentence(17, "false: none such, not two SCARS of one PIECE, another weight", BoundsOfBlows::refusedCuts);
        sentence(18, "what 0: PIECES, 1: WHOLES, 2: HOLES, 3: OPEN JOINS", BoundsOfBlows::leastAndGreatestCobbles);
        sentence(18, "LEAST QUARREL of a COBBLE of 12 BLOWS at most", BoundsOfBlows::twelveBlows);
        sentence(18, "over all orders of its BLOWS that keep all that is SURE: the least sum of weights of CUTS that are not kept",
                BoundsOfBlows::leastQuarrels);
        sentence(18, "if a WHOLE has a BELLY in a JOIN, all BLOWS of SCARS of its PIECES come ahead of it (itself left out)",
                BoundsOfBlows::sure);
        sentence(18, "If none keeps all that is SURE there is a RING.", BoundsOfBlows::rings);
        sentence(18, "4: LEAST QUARREL (NONE: a RING, more than 12 BLOWS), 5: 1 if there is a RING (0 of more than 12 BLOWS)",
                BoundsOfBlows::noQuarrel);
        sentence(18, "so many WHOLES ahead and the others behind (HOLES left out)", BoundsOfBlows::holesLeftOut);
        sentence(18, "with 2 at least on both sides", BoundsOfBlows::twoOnBothSides);
        sentence(18, "that with the greatest WAY / ((f + g) * n * m), as a fraction", BoundsOfBlows::greatestChange);
        sentence(18, "(f + g of 0: none)", BoundsOfBlows::noFaults);
        sentence(18, "of equal ones the first", BoundsOfBlows::firstOfEqualChanges);
        sentence(18, "told is how many WHOLES are ahead, if the two sides are of TWO HANDS", BoundsOfBlows::twoHandsOrNone);
        sentence(18, "6: CHANGE (NONE: none), 7: faults", BoundsOfBlows::noneAndAllFaults);
        sentence(18, "NoSuchElementException: none such.", BoundsOfBlows::noSuchCobble);
        sentence(19, "The i-th BLOW in the ORDER of a PIECE's COBBLE", BoundsOfBlows::firstAndLastBlow);
        sentence(19, "of those that have it the one with the least number first, then the second, and so on",
                BoundsOfBlows::leastOrder);
        sentence(19, "NONE: none such, a RING, more than 12.", BoundsOfBlows::noSuchBlow);
    }

    /** One PIECE with eight SCARS. */
    private static FlintHeap scars() {
        FlintHeap h = Made.pieces(1);
        for (int k = 0; k < 8; k++) {
            flat(h, 0, SCAR, 5);
        }
        return h;
    }

    private static void weights() {
        FlintHeap h = scars();
        for (int weight = 1; weight <= 9; weight++) {
            due("weight " + weight, h.cuts(0, 7, weight), true);
            due("CUTS told", h.count(8), 1);
        }
        due("the last SCAR cuts the first, weight 1", h.cuts(7, 0, 1), true);
        due("CUTS told", h.count(8), 1);
        for (int weight = 1; weight <= 9; weight++) {
            due("the LEAST QUARREL is the weight", round(weight).cobble(0, 4), weight);
        }
        FlintHeap all = scars();
        int told = 0;
        for (int a = 0; a < 8; a++) {
            for (int b = 0; b < a; b++) {
                due("cuts", all.cuts(a, b, 9), true);
                told++;
                due("CUTS told", all.count(8), told);
            }
        }
        due("of all SCARS of a PIECE", told, 28);
    }

    /** Three flakes whose SCARS cut one another all round; the lightest of these CUTS has this weight. */
    private static FlintHeap round(int weight) {
        FlintHeap h = Made.struck(3);
        h.cuts(0, 1, 9);
        h.cuts(1, 2, 9);
        h.cuts(2, 0, weight);
        return h;
    }

    private static void anew() {
        FlintHeap h = Made.struck(3);
        h.cuts(0, 1, 4);
        orderIs(h, 0, 0, 2, 1, 3);
        due("the other way", h.cuts(1, 0, 9), true);
        due("one is told", h.count(8), 1);
        orderIs(h, 0, 0, 1, 2, 3);
        due("no quarrel with the one there was", h.cobble(0, 4), 0);
        due("the first way again", h.cuts(0, 1, 1), true);
        due("one is told", h.count(8), 1);
        orderIs(h, 0, 0, 2, 1, 3);
        h.cuts(1, 2, 5);
        h.cuts(2, 0, 5);
        due("its weight is 1", h.cobble(0, 4), 1);
        due("with another weight", h.cuts(0, 1, 3), true);
        due("its weight is 3", h.cobble(0, 4), 3);
        due("three are told", h.count(8), 3);
    }

    private static void nothingTold() {
        FlintHeap h = round(2);
        due("of two of which something is told", h.cuts(2, 0, 0), true);
        due("two are told", h.count(8), 2);
        due("no quarrel", h.cobble(0, 4), 0);
        due("the other way", h.cuts(1, 0, 0), true);
        due("one is told", h.count(8), 1);
        due("of two of which nothing is told", h.cuts(0, 1, 0), true);
        due("one is told", h.count(8), 1);
        due("the last one", h.cuts(1, 2, 0), true);
        due("none is told", h.count(8), 0);
        orderIs(h, 0, 0, 1, 2, 3);
    }

    private static void behind() {
        FlintHeap h = Made.struck(2);
        h.cuts(0, 1, 1);
        orderIs(h, 0, 0, 2, 1);
        h.cuts(1, 0, 1);
        orderIs(h, 0, 0, 1, 2);
        // The last two FACES of the core, both HOLES.
        for (int k = 2; k < 8; k++) {
            flat(h, 0, SCAR, 90);
        }
        h.cuts(6, 7, 1);
        orderIs(h, 0, 0, 1, 2, 102, 103, 104, 105, 107, 106);
    }

    private static void sameBlow() {
        FlintHeap h = Made.struck(2);
        h.cuts(0, 1, 9);
        due("two BLOWS", h.blow(0, 1), 2);
        int join = h.join(flat(h, 1, BREAK, 90), flat(h, 2, BREAK, 90));
        orderIs(h, 0, 0, 1);
        due("one BLOW: no quarrel", h.cobble(0, 4), 0);
        due("it is still told", h.count(8), 1);
        h.part(join);
        due("two BLOWS again", h.blow(0, 1), 2);
        FlintHeap alone = scars();
        alone.cuts(0, 1, 9);
        due("of a PIECE alone", alone.cobble(0, 4), 0);
        orderIs(alone, 0, 0);
    }

    private static void cuts(int a, int b, int weight) {
        denied("cuts(" + a + ", " + b + ", " + weight + ")", Made::rich, h -> h.cuts(a, b, weight));
    }

    private static void refusedCuts() {
        for (int weight : new int[] {-1, 10, 16, MIN, MAX}) {
            cuts(0, 1, weight);
            cuts(41, 40, weight);
        }
        for (int weight : new int[] {0, 1, 9}) {
            cuts(0, 0, weight);
            cuts(0, 3, weight);
            cuts(3, 0, weight);
            cuts(0, 9, weight);
            cuts(19, 16, weight);
            cuts(17, 18, weight);
            for (int face : new int[] {-1, 4, 7, 10, 56, 320, MIN, MAX}) {
                cuts(0, face, weight);
                cuts(face, 0, weight);
            }
        }
        FlintHeap last = Made.broken(40, 6);
        int a = flat(last, 39, SCAR, 5);
        int b = flat(last, 39, SCAR, 5);
        due("the last SCARS of all", last.cuts(a, b, 9), true);
        due("beyond the last", last.cuts(a, 320, 9), false);
    }

    /** PIECES in a row, each struck off the one ahead: so many WHOLES. */
    private static FlintHeap chain(int n) {
        FlintHeap h = Made.pieces(n);
        h.near(0);
        for (int i = 1; i < n; i++) {
            h.join(flat(h, i - 1, SCAR, i), flat(h, i, BELLY, i));
        }
        return h;
    }

    /** A chain whose first PIECE is struck off the last one. */
    private static FlintHeap ring(int n) {
        FlintHeap h = chain(n);
        h.join(flat(h, n - 1, SCAR, 99), flat(h, 0, BELLY, 99));
        return h;
    }

    private static void leastAndGreatestCobbles() {
        FlintHeap one = scars();
        int[] single = {1, 1, 0, 0};
        FlintHeap all = chain(40);
        int[] greatest = {40, 40, 0, 0};
        for (int what = 0; what < 4; what++) {
            due("of one PIECE, what " + what, one.cobble(0, what), single[what]);
            due("of all PIECES, what " + what, all.cobble(39, what), greatest[what]);
        }
        FlintHeap holes = Made.broken(40, 2);
        for (int face = 0; face < 240; face++) {
            flat(holes, face / 6, SCAR, 90);
        }
        for (int piece = 1; piece < 40; piece++) {
            holes.join(8 * piece, 8 * piece - 7);
        }
        int[] most = {40, 1, 240, 0};
        for (int what = 0; what < 4; what++) {
            due("of all PIECES and HOLES, what " + what, holes.cobble(0, what), most[what]);
        }
        FlintHeap open = Made.pieces(2);
        for (int ripple = 0; ripple < 8; ripple++) {
            open.join(rippled(open, 0, BREAK, 5, ripple), rippled(open, 1, BREAK, 5, 0));
            due("OPEN JOINS", open.cobble(1, 3), ripple);
        }
    }

    private static void hasOrder(FlintHeap h, int piece, boolean has) {
        due("LEAST QUARREL", h.cobble(piece, 4), has ? 0 : NONE);
        due("RING", h.cobble(piece, 5), 0);
        due("the first BLOW", h.blow(piece, 0), has ? 0 : NONE);
    }

    /** Two WHOLES and as many HOLES as make up n BLOWS, 8 to 15. */
    private static FlintHeap withHoles(int n) {
        FlintHeap h = Made.struck(1);
        for (int k = 0; k < n - 2; k++) {
            flat(h, k < 7 ? 0 : 1, SCAR, 90);
        }
        return h;
    }

    private static void twelveBlows() {
        hasOrder(chain(11), 0, true);
        hasOrder(chain(12), 11, true);
        hasOrder(chain(13), 12, false);
        hasOrder(chain(40), 39, false);
        hasOrder(withHoles(11), 0, true);
        hasOrder(withHoles(12), 1, true);
        hasOrder(withHoles(13), 1, false);
        hasOrder(withHoles(14), 0, false);
        FlintHeap h = withHoles(13);
        h.join(flat(h, 1, BREAK, 5), flat(h, plain(h), BREAK, 5));
        hasOrder(h, 1, false);
        // 13 BLOWS become 12 as two WHOLES become one.
        FlintHeap both = chain(13);
        both.join(flat(both, 12, BREAK, 90), flat(both, 11, BREAK, 90));
        hasOrder(both, 12, true);
        orderIs(both, 0, 0, 11, 10, 9, 8, 7, 6, 5, 4, 3, 2, 1);
        both.part(12);
        hasOrder(both, 12, false);
    }

    private static void leastQuarrels() {
        due("no CUTS", Made.struck(3).cobble(0, 4), 0);
        lightestOfThree();
        cobblesInTurn();
        due("the lightest of three", round(1).cobble(0, 4), 1);
        due("all alike", round(9).cobble(0, 4), 9);
        // The WHOLE 2 (of 2 and 3) was struck off 0 and off 1, so it came ahead of 1: CUTS can't change it.
        FlintHeap h = Made.pieces(4);
        h.near(0);
        h.join(flat(h, 0, SCAR, 10), flat(h, 1, BELLY, 10));
        h.join(flat(h, 0, SCAR, 20), flat(h, 2, BELLY, 20));
        h.join(flat(h, 1, SCAR, 30), flat(h, 3, BELLY, 30));
        h.join(flat(h, 2, BREAK, 40), flat(h, 3, BREAK, 40));
        orderIs(h, 0, 0, 2, 1);
        h.cuts(0, 1, 9);
        due("a CUT that is kept", h.cobble(0, 4), 0);
        h.cuts(1, 0, 9);
        due("a CUT that nothing keeps", h.cobble(0, 4), 9);
        orderIs(h, 0, 0, 2, 1);
        // CUTS of 8 SCARS all round: each of 28 quarrels with the order of the others.
        FlintHeap all = Made.struck(8);
        for (int a = 0; a < 8; a++) {
            for (int b = a + 1; b < 8; b++) {
                all.cuts(a, b, 9);
            }
        }
        due("28 CUTS that agree", all.cobble(0, 4), 0);
        orderIs(all, 0, 0, 8, 7, 6, 5, 4, 3, 2, 1);
        all.cuts(7, 0, 9);
        due("one that does not", all.cobble(0, 4), 9);
    }

    /** The core is the last PIECE, so that the BLOWS that quarrel are the first ones. */
    private static void lightestOfThree() {
        int[][] orders = {{0, 2, 1}, {1, 0, 2}, {2, 1, 0}};
        for (int light = 0; light < 3; light++) {
            FlintHeap h = Made.pieces(4);
            h.near(0);
            for (int i = 0; i < 3; i++) {
                h.join(flat(h, 3, SCAR, 10 * i), flat(h, i, BELLY, 10 * i));
            }
            for (int i = 0; i < 3; i++) {
                h.cuts(24 + i, 24 + (i + 1) % 3, i == light ? 2 : 5);
            }
            due("the lightest of three", h.cobble(3, 4), 2);
            orderIs(h, 3, orders[light][0], orders[light][1], orders[light][2], 3);
        }
    }

    /** COBBLES with a quarrel, of one PIECE, of two, a RING: each is told as if it were the only one. */
    private static void cobblesInTurn() {
        FlintHeap h = Made.struck(4);
        h.cuts(1, 2, 9);
        h.cuts(2, 3, 9);
        h.cuts(3, 1, 7);
        int alone = plain(h);
        int pair = plain(h);
        h.join(flat(h, plain(h), SCAR, 70), flat(h, pair, BELLY, 70));
        int ringFrom = plain(h);
        plain(h);
        for (int i = 0; i < 2; i++) {
            h.join(flat(h, ringFrom + i, SCAR, 60 + i), flat(h, ringFrom + 1 - i, BELLY, 60 + i));
        }
        for (int i = 0; i < 2; i++) {
            due("of the one with a quarrel", h.cobble(0, 4), 7);
            due("of a PIECE alone", h.cobble(alone, 4), 0);
            due("of the one with a quarrel", h.cobble(3, 4), 7);
            due("of a pair", h.cobble(pair, 4), 0);
            orderIs(h, pair, pair, pair + 1);
            orderIs(h, alone, alone);
            due("of the RING", h.cobble(ringFrom, 4), NONE);
            due("of a pair", h.cobble(pair, 4), 0);
            due("its RING", h.cobble(pair, 5), 0);
            due("of a PIECE alone", h.cobble(alone, 4), 0);
            due("its RING", h.cobble(alone, 5), 0);
        }
    }

    private static void sure() {
        // 0 has no BELLY in a JOIN: nothing is SURE of its SCARS. 1 has one: its SCARS come ahead of it.
        FlintHeap h = Made.struck(1);
        int hole = flat(h, 0, SCAR, 90);
        orderIs(h, 0, 0, 1, 100 + hole);
        int ahead = flat(h, 1, SCAR, 90);
        orderIs(h, 0, 0, 100 + hole, 100 + ahead, 1);
        flat(h, 0, BELLY, 70);
        orderIs(h, 0, 0, 100 + hole, 100 + ahead, 1);
        int last = plain(h);
        int join = h.join(flat(h, last, SCAR, 70), 2);
        orderIs(h, 0, 2, 100 + hole, 100 + ahead, 1, 0);
        due("no quarrel, though 0 can't be first", h.cobble(0, 4), 0);
        h.part(join);
        orderIs(h, 0, 0, 100 + hole, 100 + ahead, 1);
        // Of a WHOLE each PIECE's SCARS come ahead of it if one of its PIECES has a BELLY in a JOIN.
        h.join(flat(h, 1, BREAK, 60), flat(h, last, BREAK, 60));
        orderIs(h, 0, 0, 100 + hole, 100 + ahead, 116, 1);
        // Itself left out: 0 and 1 are one WHOLE, and the BELLY of 1 is JOINED to a SCAR of 0.
        h.join(flat(h, 0, BREAK, 50), flat(h, 1, BREAK, 50));
        orderIs(h, 0, 100 + hole, 100 + ahead, 116, 0);
        // A BELLY that is the first FACE of all.
        FlintHeap first = Made.pieces(2);
        first.join(flat(first, 0, BELLY, 10), flat(first, 1, SCAR, 10));
        flat(first, 0, SCAR, 90);
        orderIs(first, 0, 1, 101, 0);
    }

    private static void rings() {
        for (int n = 2; n <= 13; n++) {
            FlintHeap h = ring(n);
            due("a RING of " + n, h.cobble(0, 5), n <= 12 ? 1 : 0);
            due("its LEAST QUARREL", h.cobble(n - 1, 4), NONE);
            h.part(n - 1);
            due("no RING any more", h.cobble(0, 5), 0);
            // The SCAR that is free now is a HOLE: one BLOW more.
            due("its LEAST QUARREL", h.cobble(0, 4), n + 1 <= 12 ? 0 : NONE);
        }
        FlintHeap one = ring(2);
        one.join(flat(one, 0, BREAK, 50), flat(one, 1, BREAK, 50));
        due("one WHOLE makes no RING", one.cobble(0, 5), 0);
        due("a PIECE alone makes none", scars().cobble(0, 5), 0);
    }

    private static void noQuarrel() {
        FlintHeap h = ring(2);
        due("a RING", h.cobble(0, 5), 1);
        due("LEAST QUARREL of a RING", h.cobble(0, 4), NONE);
        due("CHANGE of a RING", h.cobble(0, 6), NONE);
        // HOLES make it 12 BLOWS, then 13.
        for (int k = 0; k < 10; k++) {
            flat(h, k % 2, SCAR, 50);
        }
        due("HOLES", h.cobble(0, 2), 10);
        due("a RING of 12 BLOWS", h.cobble(0, 5), 1);
        due("its LEAST QUARREL", h.cobble(0, 4), NONE);
        flat(h, 1, SCAR, 50);
        due("more than 12 BLOWS: RING", h.cobble(0, 5), 0);
        due("more than 12 BLOWS: LEAST QUARREL", h.cobble(0, 4), NONE);
        due("more than 12 BLOWS: CHANGE", h.cobble(0, 6), NONE);
        due("more than 12 BLOWS: HOLES", h.cobble(0, 2), 11);
    }

    /** WHOLES with these faults in the ORDER. */
    private static FlintHeap withFaults(int... faults) {
        FlintHeap h = Made.struck(faults.length - 1);
        for (int i = 0; i < faults.length; i++) {
            h.marks(i, 0, 0, 0, false, faults[i]);
        }
        return h;
    }

    private static void changeIs(int due, int... faults) {
        StringBuilder told = new StringBuilder("CHANGE of");
        for (int f : faults) {
            told.append(' ').append(f);
        }
        due(told.toString(), withFaults(faults).cobble(0, 6), due);
    }

    private static void holesLeftOut() {
        FlintHeap h = withFaults(9, 9, 0, 0);
        flat(h, 0, SCAR, 90);
        for (int scar = 0; scar < 3; scar++) {
            h.cuts(scar, 3, 1);
        }
        orderIs(h, 0, 0, 103, 1, 2, 3);
        due("9, a HOLE, 9 0 0", h.cobble(0, 6), 2);
        h.marks(1, 0, 0, 0, false, 0);
        h.marks(2, 0, 0, 0, false, 9);
        h.marks(3, 0, 0, 0, false, 9);
        // Of 9 0 9 9: 2 ahead is 18 * 18, not above 4 * 27 * 4.
        due("9, a HOLE, 0 9 9", h.cobble(0, 6), NONE);
        FlintHeap hundred = Made.pieces(5);
        hundred.near(0);
        flat(hundred, 0, SCAR, 90);
        for (int i = 1; i < 5; i++) {
            hundred.join(flat(hundred, 0, SCAR, i), flat(hundred, i, BELLY, i));
            hundred.cuts(i, 0, 1);
        }
        hundred.marks(0, 0, 0, 0, false, 9);
        hundred.marks(1, 0, 0, 0, false, 9);
        orderIs(hundred, 0, 0, 100, 1, 2, 3, 4);
        due("the HOLE with the least number", hundred.cobble(0, 6), 2);
        FlintHeap three = withFaults(9, 9, 0);
        flat(three, 0, SCAR, 90);
        due("3 WHOLES and a HOLE", three.cobble(0, 6), NONE);
    }

    private static void twoOnBothSides() {
        changeIs(NONE, 9, 0);
        changeIs(NONE, 9, 9, 0);
        changeIs(NONE, 9, 0, 0);
        changeIs(2, 9, 9, 0, 0);
        changeIs(2, 9, 0, 0, 0);
        changeIs(2, 0, 0, 0, 9);
        // The greatest is 1 ahead, or 4 of 5 ahead: what is nearest to it with 2 on both sides.
        changeIs(2, 9, 0, 0, 0, 0);
        changeIs(3, 0, 0, 0, 0, 9);
        changeIs(7, 0, 0, 0, 0, 0, 0, 0, 9, 9);
        changeIs(2, 9, 9, 0, 0, 0, 0, 0, 0, 0);
        // 12 BLOWS, the ORDER is 0 11 10 .. 1.
        FlintHeap twelve = chain(12);
        due("of 12 BLOWS without faults", twelve.cobble(0, 6), NONE);
        twelve.marks(1, 0, 0, 0, false, 9);
        twelve.marks(2, 0, 0, 0, false, 9);
        due("of 12 BLOWS, the last place", twelve.cobble(0, 6), 10);
        twelve.marks(1, 0, 0, 0, false, 0);
        twelve.marks(2, 0, 0, 0, false, 0);
        twelve.marks(0, 0, 0, 0, false, 9);
        twelve.marks(11, 0, 0, 0, false, 9);
        due("of 12 BLOWS, the first place", twelve.cobble(0, 6), 2);
    }

    private static void greatestChange() {
        // Of 9 9 0 0 0: 2 ahead 54 * 54 / (18 * 6) = 27, 3 ahead 36 * 36 / (18 * 6) = 12.
        changeIs(2, 9, 9, 0, 0, 0);
        changeIs(3, 0, 0, 0, 9, 9);
        // Of 9 9 9 0 0 0: 3 ahead 81 * 81 / (27 * 9), 2 ahead 54 * 54 / (27 * 8): 27 and 13.5.
        changeIs(3, 9, 9, 9, 0, 0, 0);
        // Of 5 9 0 4 1 1: 2 ahead 44 * 44 / (20 * 8) = 12.1; 3 ahead 24 * 24 / (20 * 9) = 3.2.
        changeIs(2, 5, 9, 0, 4, 1, 1);
        // WHOLES of two PIECES have the faults of both.
        FlintHeap h = withFaults(0, 0, 9, 0, 0);
        int half = plain(h);
        h.join(flat(h, 4, BREAK, 90), flat(h, half, BREAK, 90));
        due("0 0 9 0 0", h.cobble(0, 6), 2);
        h.marks(half, 0, 0, 0, false, 1);
        // Of 0 0 9 0 1: 2 ahead 20 * 20 / 60 = 6.7, 3 ahead 15 * 15 / 60.
        due("0 0 9 0 0 + 1", h.cobble(0, 6), 2);
        h.marks(0, 0, 0, 0, false, 9);
        h.marks(half, 0, 0, 0, false, 0);
        // Of 9 0 9 0 0: 2 ahead 9 * 9 / 108, 3 ahead 36 * 36 / 108.
        due("9 0 9 0 0", h.cobble(0, 6), 3);
    }

    private static void noFaults() {
        changeIs(NONE, 0, 0, 0, 0);
        changeIs(NONE, 0, 0, 0, 0, 0, 0, 0, 0, 0);
        changeIs(NONE, 0, 0, 0, 1);
    }

    private static void firstOfEqualChanges() {
        // Of 0 0 9 0 0: 2 ahead and 3 ahead have 18 * 18 / 54 both.
        changeIs(2, 0, 0, 9, 0, 0);
        changeIs(2, 0, 0, 9, 9, 0, 0);
        changeIs(3, 0, 0, 0, 9, 9, 9, 0, 0, 0);
    }

    private static void twoHandsOrNone() {
        // 2 ahead, 2 behind: (f - g) squared must be above 4 * (f + g).
        changeIs(NONE, 4, 0, 0, 0);
        changeIs(2, 5, 0, 0, 0);
        changeIs(NONE, 3, 3, 0, 1);
        changeIs(2, 3, 4, 0, 1);
        changeIs(NONE, 6, 6, 1, 3);
        changeIs(NONE, 6, 6, 2, 2);
        changeIs(2, 6, 6, 2, 1);
        changeIs(NONE, 9, 3, 4, 0);
        changeIs(NONE, 9, 9, 9, 9);
    }

    private static void noneAndAllFaults() {
        FlintHeap h = Made.broken(40, 2);
        due("of a single one", h.cobble(39, 7), 0);
        for (int piece = 0; piece < 40; piece++) {
            h.marks(piece, 0, 0, 0, false, 9);
            due("of a single one", h.cobble(piece, 7), 9);
        }
        for (int piece = 1; piece < 40; piece++) {
            h.join(8 * piece, 8 * piece - 7);
        }
        due("of all 40", h.cobble(0, 7), 360);
        due("CHANGE of one WHOLE", h.cobble(0, 6), NONE);
        due("CHANGE of a PIECE alone", scars().cobble(0, 6), NONE);
    }

    private static void cobble(int piece, int what) {
        refused("cobble(" + piece + ", " + what + ")", Made::rich, THROWN, h -> h.cobble(piece, what));
    }

    private static void noSuchCobble() {
        for (int piece : new int[] {-1, 7, 40, MIN, MAX}) {
            for (int what = 0; what < 8; what++) {
                cobble(piece, what);
            }
        }
        for (int what : new int[] {-1, 8, MIN, MAX}) {
            cobble(0, what);
        }
        refused("cobble(40, 0) of 40", () -> Made.pieces(40), THROWN, h -> h.cobble(40, 0));
    }

    private static void firstAndLastBlow() {
        FlintHeap one = scars();
        due("the only one", one.blow(0, 0), 0);
        due("none behind", one.blow(0, 1), NONE);
        orderIs(chain(12), 11, 0, 11, 10, 9, 8, 7, 6, 5, 4, 3, 2, 1);
        orderIs(withHoles(12), 0, 0, 101, 102, 103, 104, 105, 106, 107, 109, 110, 111, 1);
        FlintHeap last = Made.pieces(40);
        orderIs(last, 39, 39);
        FlintHeap h = Made.struck(3);
        due("i -1", h.blow(0, -1), NONE);
        due("i 3", h.blow(0, 3), 3);
        due("i 4", h.blow(0, 4), NONE);
    }

    private static void leastOrder() {
        orderIs(Made.struck(3), 0, 0, 1, 2, 3);
        // All CUTS alike: one of the three gives way, and 1 3 2 is the least of 1 3 2, 2 1 3 and 3 2 1.
        orderIs(round(9), 0, 0, 1, 3, 2);
        // The lightest gives way: 1 ahead of 3.
        orderIs(round(8), 0, 0, 3, 2, 1);
        // Numbers of WHOLES are less than those of HOLES.
        FlintHeap h = Made.struck(2);
        flat(h, 0, SCAR, 90);
        orderIs(h, 0, 0, 1, 2, 102);
        h.cuts(0, 2, 1);
        orderIs(h, 0, 0, 2, 102, 1);
        h.cuts(1, 2, 1);
        orderIs(h, 0, 0, 102, 1, 2);
    }

    private static void blow(int piece, int i) {
        refused("blow(" + piece + ", " + i + ")", Made::rich, NONE, h -> h.blow(piece, i));
    }

    private static void noSuchBlow() {
        for (int i : new int[] {-1, 6, 12, 13, MIN, MAX}) {
            blow(0, i);
        }
        blow(6, 1);
        for (int piece : new int[] {-1, 7, 40, MIN, MAX}) {
            blow(piece, 0);
        }
        refused("blow of a RING", () -> ring(12), NONE, h -> h.blow(0, 0));
        refused("blow of 13", () -> chain(13), NONE, h -> h.blow(0, 0));
        refused("blow of 13, the 13th", () -> withHoles(13), NONE, h -> h.blow(0, 12));
        due("the last of 12", chain(12).blow(0, 11), 1);
        due("the 13th of 12", chain(12).blow(0, 12), NONE);
    }
}
