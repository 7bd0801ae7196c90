/** Boundary cases of promises 20 to 25: seat, foot, hour, hands, blind, count. */
final class BoundsOfGround extends Bounds {
    private BoundsOfGround() {
    }

    static void all() {
        sentence(20, "the ground has 100 cells (10 by 10, each 100 by 100; cell 10 * row + column; its middle 50, 50 from its corner)",
                BoundsOfGround::cells);
        sentence(20, "how much the way to the nearest cell's middle (the greater of both ways) is above LOOSE, 0 at least",
                BoundsOfGround::costAboveLoose);
        sentence(20, "the one cell, the two cells (the lesser first) with the least COST", BoundsOfGround::leastCost);
        sentence(20, "of equal ones the least first, then the least second", BoundsOfGround::equalSeats);
        sentence(20, "n of them (1, 2), what 0: COST, 1: the first, 2: the second (NONE of one)", BoundsOfGround::oneAndTwo);
        sentence(20, "NoSuchElementException: none such, another n.", BoundsOfGround::noSuchSeat);
        sentence(21, "FEET, 20 at most, in order: a place, a strength (1 to 99)", BoundsOfGround::twentyFeet);
        sentence(21, "A FOOT more: how many", BoundsOfGround::howManyFeet);
        sentence(21, "NONE: other numbers, 20 are there", BoundsOfGround::refusedFeet);
        sentence(22, "LAYERS ARE ONE HOUR if a JOIN has PIECES in both; and so on", BoundsOfGround::oneHour);
        sentence(22, "The least layer that is one hour with a layer", BoundsOfGround::leastLayer);
        sentence(22, "NONE: none such.", BoundsOfGround::noSuchLayer);
        sentence(23, "they are of TWO HANDS if it is above 4 * (f + g) * n * m, and n, m are 2 at least",
                BoundsOfGround::twoHands);
        sentence(23, "(Faults of a WHOLE: those of its PIECES.)", BoundsOfGround::faultsOfWholes);
        sentence(23, "NONE: none such, one COBBLE.", BoundsOfGround::noHands);
        sentence(24, "A BLIND trial: how many", BoundsOfGround::howManyTrials);
        sentence(24, "NONE: 1000 were.", BoundsOfGround::athousandTrials);
        sentence(24, "trials told as right or wrong, 1000 at most: of 1000 how many wrong, cut", BoundsOfGround::wrongOfAThousand);
        sentence(25, "What 0: PIECES, 1: JOINS that are not PARTED", BoundsOfGround::countsOfPiecesAndJoins);
        sentence(25, "2: COBBLES of two PIECES and more, 3: OPEN JOINS", BoundsOfGround::countsOfCobbles);
        sentence(25, "4: BLIND wrong of 1000 (NONE without any)", BoundsOfGround::countOfTrials);
        sentence(25, "5: lines of the text, 6: signs on the TAPE, 7: NOW", BoundsOfGround::countsOfText);
        sentence(25, "8: CUTS told, 9: NAMES told by let", BoundsOfGround::countsOfCutsAndNames);
        sentence(25, "NONE for another what.", BoundsOfGround::anotherWhat);
    }

    private static FlintHeap at(int size, int... places) {
        FlintHeap h = new FlintHeap();
        for (int i = 0; i < places.length; i += 2) {
            h.piece(0, size, places[i], places[i + 1], 0);
        }
        for (int i = 2; i < places.length; i += 2) {
            h.join(flat(h, i / 2 - 1, BREAK, 5), flat(h, i / 2, BREAK, 5));
        }
        return h;
    }

    private static void seatIs(FlintHeap h, int piece, int cost, int first) {
        due("COST of one", h.seat(piece, 1, 0), cost);
        due("the one", h.seat(piece, 1, 1), first);
        due("no second one", h.seat(piece, 1, 2), NONE);
    }

    private static void seatsAre(FlintHeap h, int piece, int cost, int first, int second) {
        due("COST of two", h.seat(piece, 2, 0), cost);
        due("the first of two", h.seat(piece, 2, 1), first);
        due("the second of two", h.seat(piece, 2, 2), second);
    }

    private static void cells() {
        for (int cell = 0; cell < 100; cell++) {
            int x = 100 * (cell % 10) + 50;
            int y = 100 * (cell / 10) + 50;
            seatIs(at(200, x, y), 0, 0, cell);
        }
        // LOOSE 12: the edges of a cell are 38 and 37 above it.
        seatIs(at(200, 0, 0), 0, 38, 0);
        seatIs(at(200, 99, 99), 0, 37, 0);
        seatIs(at(200, 100, 99), 0, 38, 0);
        seatIs(at(200, 101, 99), 0, 37, 1);
        seatIs(at(200, 99, 101), 0, 37, 10);
        seatIs(at(200, 101, 101), 0, 37, 11);
        seatIs(at(200, 999, 999), 0, 37, 99);
        seatIs(at(200, 900, 0), 0, 38, 8);
        seatIs(at(200, 901, 0), 0, 38, 9);
        seatIs(at(200, 901, 950), 0, 37, 99);
    }

    private static void costAboveLoose() {
        // LOOSE of size 40 is 20, of size 50 it is 18.
        int[][] rows = {{40, 470, 450, 0}, {40, 471, 450, 1}, {40, 450, 430, 0}, {40, 450, 429, 1}, {40, 471, 429, 1},
            {40, 472, 429, 2}, {40, 429, 472, 2}, {50, 468, 450, 0}, {50, 469, 450, 1}};
        for (int[] r : rows) {
            seatIs(at(r[0], r[1], r[2]), 0, r[3], 44);
        }
        // Size 1 has LOOSE 410: the middle of the cell 0 is within it up to 460.
        seatIs(at(1, 460, 460), 0, 0, 0);
        seatIs(at(1, 461, 460), 0, 0, 1);
        seatIs(at(1, 460, 461), 0, 0, 10);
        seatIs(at(1, 999, 999), 0, 0, 66);
        // Two that are less than LOOSE off make up for none that is more: 0 and 5, not -5 and 5.
        seatIs(at(40, 450, 450, 475, 450), 1, 5, 44);
    }

    private static void leastCost() {
        seatIs(at(200, 50, 50, 250, 50), 1, 176, 1);
        seatsAre(at(200, 50, 50, 250, 50), 0, 0, 0, 2);
        seatsAre(at(200, 250, 50, 50, 50), 1, 0, 0, 2);
        seatsAre(at(200, 950, 950, 50, 50), 0, 0, 0, 99);
        // Three places for two cells: the pair that is nearer shares one, at 88.
        seatsAre(at(200, 50, 50, 550, 50, 650, 50), 2, 88, 0, 5);
        FlintHeap all = Made.broken(40, 2);
        for (int piece = 1; piece < 40; piece++) {
            all.join(8 * piece, 8 * piece - 7);
        }
        seatIs(all, 39, 0, 0);
        seatsAre(all, 39, 0, 0, 1);
    }

    private static void equalSeats() {
        // 50 off all four cells round about.
        seatIs(at(200, 500, 500), 0, 38, 44);
        seatIs(at(200, 500, 450), 0, 38, 44);
        seatIs(at(200, 450, 500), 0, 38, 44);
        seatsAre(at(200, 500, 500), 0, 38, 0, 44);
        // A cell that fits and any other one: the least.
        seatsAre(at(200, 50, 50), 0, 0, 0, 1);
        seatsAre(at(200, 150, 50), 0, 0, 0, 1);
        seatsAre(at(200, 250, 50), 0, 0, 0, 2);
        seatsAre(at(200, 950, 950), 0, 0, 0, 99);
        // One between 0 and 1, one between 98 and 99.
        seatsAre(at(200, 100, 50, 900, 950), 0, 76, 0, 98);
    }

    private static void oneAndTwo() {
        FlintHeap h = at(200, 950, 50);
        seatIs(h, 0, 0, 9);
        seatsAre(h, 0, 0, 0, 9);
        seatIs(h, 0, 0, 9);
        // The whole COBBLE's, whichever PIECE is asked; it moves as the COBBLE does.
        FlintHeap both = at(200, 50, 50, 250, 50);
        seatIs(both, 0, 176, 1);
        seatIs(both, 1, 176, 1);
        both.part(0);
        seatIs(both, 0, 0, 0);
        seatIs(both, 1, 0, 2);
        both.join(0, 8);
        seatIs(both, 1, 176, 1);
    }

    private static void seat(int piece, int n, int what) {
        refused("seat(" + piece + ", " + n + ", " + what + ")", Made::rich, THROWN, h -> h.seat(piece, n, what));
    }

    private static void noSuchSeat() {
        for (int n : new int[] {0, 3, -1, MIN, MAX}) {
            for (int what = 0; what < 3; what++) {
                seat(0, n, what);
            }
        }
        for (int what : new int[] {-1, 3, MIN, MAX}) {
            seat(0, 1, what);
            seat(0, 2, what);
        }
        for (int piece : new int[] {-1, 7, 40, MIN, MAX}) {
            seat(piece, 1, 0);
            seat(piece, 2, 1);
        }
        refused("seat(40, 1, 0) of 40", () -> Made.pieces(40), THROWN, h -> h.seat(40, 1, 0));
    }

    private static void twentyFeet() {
        FlintHeap h = at(20, 450, 450);
        for (int i = 1; i <= 19; i++) {
            due("a FOOT", h.foot(999, 0, 99), i);
        }
        due("the 20th", h.foot(450, 450, 7), 20);
        due("it moves the PIECE", h.look(0, 6), 457);
        due("the 21st", h.foot(457, 457, 7), NONE);
        due("it moves nothing", h.look(0, 6), 457);
        // In order: away to the one side, then back by the other, which is within reach only then.
        FlintHeap order = at(20, 450, 450);
        order.foot(440, 450, 30);
        order.foot(580, 460, 10);
        due("x by both", order.look(0, 6), 470);
        due("y by both", order.look(0, 7), 490);
        FlintHeap turned = at(20, 450, 450);
        turned.foot(580, 460, 10);
        turned.foot(440, 450, 30);
        due("x by one", turned.look(0, 6), 480);
        due("y by one", turned.look(0, 7), 480);
    }

    private static void howManyFeet() {
        FlintHeap h = new FlintHeap();
        int[][] feet = {{0, 0, 1}, {999, 999, 99}, {0, 999, 50}, {999, 0, 1}};
        for (int i = 0; i < 4; i++) {
            due("foot", h.foot(feet[i][0], feet[i][1], feet[i][2]), i + 1);
            due("a wrong one", h.foot(feet[i][0], feet[i][1], 0), NONE);
        }
        for (int i = 5; i <= 20; i++) {
            due("foot", h.foot(i, i, i), i);
        }
    }

    private static void foot(int x, int y, int strength) {
        refused("foot(" + x + ", " + y + ", " + strength + ")", Made::rich, NONE, h -> h.foot(x, y, strength));
    }

    private static void refusedFeet() {
        for (int place : new int[] {-1, 1000, MIN, MAX}) {
            foot(place, 150, 50);
            foot(150, place, 50);
        }
        for (int strength : new int[] {0, 100, -1, MIN, MAX}) {
            foot(150, 150, strength);
        }
        refused("the 21st FOOT", () -> Made.feet(20), NONE, h -> h.foot(150, 150, 50));
        due("the 20th FOOT", Made.feet(19).foot(150, 150, 50), 20);
    }

    /** A PIECE in each layer, with two BREAKS. */
    private static FlintHeap inLayers() {
        FlintHeap h = new FlintHeap();
        for (int layer = 0; layer < 5; layer++) {
            h.piece(0, 50, 50, 50, layer);
            flat(h, layer, BREAK, 5);
            flat(h, layer, BREAK, 5);
        }
        return h;
    }

    private static void hoursAre(FlintHeap h, int... due) {
        for (int layer = 0; layer < 5; layer++) {
            due("hour(" + layer + ")", h.hour(layer), due[layer]);
        }
    }

    private static void oneHour() {
        FlintHeap h = inLayers();
        hoursAre(h, 0, 1, 2, 3, 4);
        h.join(32, 24);
        hoursAre(h, 0, 1, 2, 3, 3);
        h.join(8, 33);
        hoursAre(h, 0, 1, 2, 1, 1);
        h.join(16, 0);
        hoursAre(h, 0, 1, 0, 1, 1);
        h.join(17, 9);
        hoursAre(h, 0, 0, 0, 0, 0);
        h.part(1);
        hoursAre(h, 0, 0, 0, 3, 3);
        // By PIECES of a layer, not by COBBLES: two COBBLES that share a layer.
        FlintHeap two = inLayers();
        two.piece(0, 50, 50, 50, 2);
        flat(two, 5, BREAK, 5);
        two.join(16, 32);
        two.join(40, 8);
        hoursAre(two, 0, 1, 1, 3, 1);
    }

    private static void leastLayer() {
        FlintHeap h = inLayers();
        h.join(0, 32);
        hoursAre(h, 0, 1, 2, 3, 0);
        h.part(0);
        hoursAre(h, 0, 1, 2, 3, 4);
        FlintHeap same = Made.broken(2, 1);
        same.join(0, 8);
        hoursAre(same, 0, 1, 2, 3, 4);
        hoursAre(new FlintHeap(), 0, 1, 2, 3, 4);
    }

    private static void noSuchLayer() {
        for (int layer : new int[] {-1, 5, MIN, MAX}) {
            refused("hour(" + layer + ")", Made::rich, NONE, h -> h.hour(layer));
        }
    }

    /** Two COBBLES, each of so many WHOLES with all its faults at the first PIECE; that of the second is 20. */
    private static FlintHeap heaps(int n, int f, int m, int g) {
        FlintHeap h = Made.pieces(40);
        h.near(0);
        cobbleFrom(h, 0, n, f);
        cobbleFrom(h, 20, m, g);
        return h;
    }

    private static void cobbleFrom(FlintHeap h, int first, int wholes, int faults) {
        int left = faults;
        for (int i = 0; i < wholes; i++) {
            int piece = first + i;
            h.marks(piece, 0, 0, 0, false, Math.min(left, 9));
            left -= Math.min(left, 9);
            if (i > 0) {
                h.join(flat(h, piece - 1, SCAR, piece), flat(h, piece, BELLY, piece));
            }
        }
        due("all faults told", left, 0);
    }

    private static void handsAre(int due, int n, int f, int m, int g) {
        FlintHeap h = heaps(n, f, m, g);
        String told = f + " in " + n + ", " + g + " in " + m;
        due(told, h.hands(0, 20), due);
        due(told + ", the other way", h.hands(20, 0), due);
        due(told + ", by other PIECES", h.hands(n - 1, 20 + m - 1), due);
    }

    private static void twoHands() {
        // (2 f - 2 g) squared above 16 * (f + g): of 4 and 0 it is 64 to 64, of 12 and 4 256 to 256.
        handsAre(0, 2, 3, 2, 0);
        handsAre(0, 2, 4, 2, 0);
        handsAre(1, 2, 5, 2, 0);
        handsAre(0, 2, 12, 2, 4);
        handsAre(1, 2, 13, 2, 4);
        handsAre(1, 2, 12, 2, 3);
        handsAre(0, 2, 0, 2, 0);
        // One WHOLE is too few, on either side.
        handsAre(0, 1, 9, 2, 0);
        handsAre(0, 1, 9, 20, 0);
        handsAre(0, 1, 9, 1, 0);
        handsAre(0, 20, 180, 1, 0);
        handsAre(1, 20, 180, 2, 0);
        handsAre(1, 20, 180, 20, 0);
        handsAre(0, 20, 180, 20, 180);
        // f 6 in 2, g 0 in 3: 18 * 18 to 4 * 6 * 6; f 2: 36 to 48; f 3: 81 to 72.
        handsAre(1, 2, 6, 3, 0);
        handsAre(0, 2, 2, 3, 0);
        handsAre(1, 2, 3, 3, 0);
    }

    private static void faultsOfWholes() {
        FlintHeap h = heaps(2, 4, 2, 0);
        due("4 and 0", h.hands(0, 20), 0);
        h.join(flat(h, 1, BREAK, 90), flat(h, 39, BREAK, 90));
        due("a PIECE more, no WHOLE more", h.hands(0, 20), 0);
        h.marks(39, 0, 0, 0, false, 1);
        due("its fault counts: 5 and 0", h.hands(39, 21), 1);
        h.join(flat(h, 0, BREAK, 95), flat(h, 1, BREAK, 95));
        due("one WHOLE is too few", h.hands(0, 20), 0);
    }

    private static void hands(int a, int b) {
        refused("hands(" + a + ", " + b + ")", Made::rich, NONE, h -> h.hands(a, b));
    }

    private static void noHands() {
        for (int piece : new int[] {-1, 7, 40, MIN, MAX}) {
            hands(piece, 0);
            hands(0, piece);
            hands(piece, piece);
        }
        hands(0, 0);
        hands(0, 3);
        hands(3, 0);
        hands(6, 6);
        refused("hands(0, 40) of 40", () -> Made.pieces(40), NONE, h -> h.hands(0, 40));
        due("of two single PIECES", Made.pieces(40).hands(0, 39), 0);
    }

    private static void howManyTrials() {
        FlintHeap h = new FlintHeap();
        for (int i = 1; i <= 500; i++) {
            due("blind", h.blind(i % 2 == 0), i);
        }
    }

    private static void athousandTrials() {
        due("the 999th", Made.trials(998).blind(true), 999);
        due("the 1000th", Made.trials(999).blind(true), 1000);
        refused("the 1001st, right", () -> Made.trials(1000), NONE, h -> h.blind(true));
        refused("the 1001st, wrong", () -> Made.trials(1000), NONE, h -> h.blind(false));
        due("wrong of them", Made.trials(1000).count(4), 500);
    }

    private static int wrongOf(int right, int wrong) {
        FlintHeap h = new FlintHeap();
        for (int i = 0; i < right; i++) {
            h.blind(true);
        }
        for (int i = 0; i < wrong; i++) {
            h.blind(false);
        }
        return h.count(4);
    }

    private static void wrongOfAThousand() {
        int[][] rows = {{0, 1, 1000}, {1, 0, 0}, {1, 1, 500}, {2, 1, 333}, {1, 2, 666}, {6, 1, 142}, {1, 6, 857}, {500, 1, 1},
            {1, 500, 998}, {999, 1, 1}, {1, 999, 999}, {0, 1000, 1000}, {1000, 0, 0}};
        for (int[] r : rows) {
            due(r[0] + " right, " + r[1] + " wrong", wrongOf(r[0], r[1]), r[2]);
        }
    }

    private static void countsOfPiecesAndJoins() {
        for (int n = 0; n <= 40; n++) {
            due(n + " PIECES", Made.pieces(n).count(0), n);
        }
        FlintHeap h = Made.broken(40, 4);
        for (int i = 0; i < 80; i++) {
            due(i + " JOINS", h.count(1), i);
            h.join(16 * (i / 4) + i % 4, 16 * (i / 4) + 8 + i % 4);
        }
        due("80 JOINS", h.count(1), 80);
        for (int i = 79; i >= 0; i--) {
            h.part(i);
            due(i + " JOINS that are not PARTED", h.count(1), i);
        }
    }

    private static void countsOfCobbles() {
        FlintHeap h = Made.broken(40, 2);
        for (int i = 0; i < 20; i++) {
            due(i + " COBBLES of two", h.count(2), i);
            h.join(16 * i, 16 * i + 8);
        }
        due("20 COBBLES of two", h.count(2), 20);
        for (int i = 0; i < 19; i++) {
            h.join(16 * i + 9, 16 * i + 17);
        }
        due("one COBBLE of 40", h.count(2), 1);
        FlintHeap open = Made.pieces(2);
        for (int ripple = 0; ripple < 8; ripple++) {
            open.join(rippled(open, 0, BREAK, 5, ripple), rippled(open, 1, BREAK, 5, 0));
            due(ripple + " OPEN JOINS", open.count(3), ripple);
        }
        for (int join = 7; join > 0; join--) {
            open.part(join);
            due("OPEN JOINS that are not PARTED", open.count(3), join - 1);
        }
    }

    private static void countOfTrials() {
        FlintHeap h = new FlintHeap();
        due("without any", h.count(4), NONE);
        h.blind(true);
        due("none wrong", h.count(4), 0);
        h.blind(false);
        due("half of them wrong", h.count(4), 500);
    }

    private static void countsOfText() {
        FlintHeap h = new FlintHeap();
        read(h, "bar when 0;".repeat(24));
        due("24 lines", h.count(5), 24);
        Check.feed(h, "bar when 0;".repeat(91));
        due("1,000 signs", h.count(6), 1000);
        due("the lines stay", h.count(5), 24);
        h.text();
        due("no signs", h.count(6), 0);
        due("NOW at first", h.count(7), 0);
        due("NOW at last", Made.onDay(999).count(7), 999);
        due("lines at first", new FlintHeap().count(5), 0);
    }

    private static void countsOfCutsAndNames() {
        FlintHeap h = Made.pieces(2);
        for (int k = 0; k < 16; k++) {
            flat(h, k / 8, SCAR, 5);
        }
        int told = 0;
        for (int a = 0; a < 16; a++) {
            for (int b = a + 1; b < 8 * (a / 8) + 8; b++) {
                due(told + " CUTS", h.count(8), told);
                h.cuts(a, b, 1);
                told++;
            }
        }
        due("56 CUTS", h.count(8), 56);
        StringBuilder text = new StringBuilder();
        for (int n = 0; n <= 8; n++) {
            read(h, text.toString());
            due(n + " NAMES", h.count(9), n);
            text.append("let n").append((char) ('a' + n)).append("=1;");
        }
        due("a ninth is a FAULT", read(h, text.toString()), 5 + 16 * 76);
        due("8 NAMES", h.count(9), 8);
    }

    private static void anotherWhat() {
        for (int what : new int[] {-1, 10, MIN, MAX}) {
            refused("count(" + what + ")", Made::rich, NONE, h -> h.count(what));
        }
    }
}
