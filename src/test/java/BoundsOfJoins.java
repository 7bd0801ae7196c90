/** Boundary cases of promises 11 to 13 and 16: join, part, joined, asOf. */
final class BoundsOfJoins extends Bounds {
    private BoundsOfJoins() {
    }

    static void all() {
        sentence(11, "JOINED: the number of the JOIN", BoundsOfJoins::numbersOfJoins);
        sentence(11, "each FACE is in one JOIN at most", BoundsOfJoins::oneJoinOfAFace);
        sentence(11, "It stays, whatever text, t or marks are later, until it is PARTED on a DAY.", BoundsOfJoins::joinStays);
        sentence(11, "JOINS are numbered as they come (80 at most in all)", BoundsOfJoins::eightyJoins);
        sentence(11, "NONE: none such, they may not meet, one is in a JOIN, 80 came", BoundsOfJoins::refusedJoins);
        sentence(12, "A JOIN is PARTED: true", BoundsOfJoins::parted);
        sentence(12, "false: none such, it is.", BoundsOfJoins::notParted);
        sentence(13, "Of a JOIN, what 0, 1: its FACES (as told)", BoundsOfJoins::facesAsTold);
        sentence(13, "3: the DAY when JOINED, 4: when PARTED (NONE)", BoundsOfJoins::daysOfJoins);
        sentence(13, "0 of that; going from PIECES to those JOINED to them, breadth first", BoundsOfJoins::turnsOfPieces);
        sentence(13, "of one that is found by a JOIN with TURN r from one with TURN s: (r - s) modulo 8",
                BoundsOfJoins::turnsGoRound);
        sentence(13, "A JOIN of two PIECES with TURNS s and u is CLOSED if (s + u - r) modulo 8 is 0, else OPEN.",
                BoundsOfJoins::closedAndOpen);
        sentence(13, "5: 1 if OPEN, else 0 (0 of a PARTED one)", BoundsOfJoins::partedIsNotOpen);
        sentence(13, "RIVALS of a JOIN: FACES, but these two, that MAY MEET one of these two now.", BoundsOfJoins::rivals);
        sentence(13, "6: RIVALS (0 of a PARTED one)", BoundsOfJoins::noRivals);
        sentence(13, "7: DOUBT of its FACES as things are now (whether they may meet or not)", BoundsOfJoins::doubtNow);
        sentence(13, "NoSuchElementException: none such.", BoundsOfJoins::noSuchJoin);
        sentence(16, "The COBBLE of a PIECE as of a DAY (0 to NOW)", BoundsOfJoins::daysUpToNow);
        sentence(16, "by the JOINS that were JOINED on that DAY or ahead and not PARTED on it or ahead",
                BoundsOfJoins::onThatDayOrAhead);
        sentence(16, "COBBLES: PIECES that hang together by JOINS (a single one, too); the least PIECE is its name.",
                BoundsOfJoins::leastAndGreatestCobble);
        sentence(16, "NONE: none such.", BoundsOfJoins::noSuchDay);
    }

    private static void numbersOfJoins() {
        FlintHeap h = Made.broken(4, 4);
        due("the first", h.join(0, 8), 0);
        due("a wrong one", h.join(0, 16), NONE);
        due("the second, behind a wrong one", h.join(1, 9), 1);
        due("PARTED", h.part(1), true);
        due("the third, behind a PARTED one", h.join(1, 9), 2);
        due("PARTED, the first of all", h.part(0), true);
        due("the fourth", h.join(24, 16), 3);
    }

    private static void oneJoinOfAFace() {
        FlintHeap h = Made.broken(3, 2);
        due("JOINED", h.join(0, 8), 0);
        int[][] pairs = {{0, 8}, {8, 0}, {0, 9}, {9, 0}, {8, 1}, {1, 8}, {16, 0}, {8, 16}};
        for (int[] p : pairs) {
            due("join(" + p[0] + ", " + p[1] + ")", h.join(p[0], p[1]), NONE);
        }
        due("their other FACES are free", h.join(9, 1), 1);
        due("PARTED", h.part(0), true);
        due("the first FACE is free", h.join(16, 0), 2);
        due("the second FACE is free", h.join(8, 17), 3);
    }

    private static void joinStays() {
        FlintHeap h = Made.broken(2, 1);
        h.near(5);
        h.join(0, 8);
        read(h, "bar when 1; stone 1 when 1;");
        h.near(0);
        h.marks(0, 99, 99, 9, true, 9);
        h.days(100);
        due("they may not meet any more", h.meet(0, 8, 2), 0);
        due("JOINED all the same", h.of(0, 1), 8);
        due("one JOIN stands", h.count(1), 1);
        due("one COBBLE", h.look(1, 1), 0);
        due("PARTED", h.part(0), true);
        due("no JOIN stands", h.count(1), 0);
        due("not JOINED", h.of(0, 1), NONE);
        due("they may not meet, so not JOINED again", h.join(0, 8), NONE);
    }

    /** 80 JOINS have come, of which one stands at most. */
    private static FlintHeap eighty(boolean oneStands) {
        FlintHeap h = Made.broken(2, 2);
        for (int i = 0; i < 80; i++) {
            h.join(0, 8);
            if (i < 79 || !oneStands) {
                h.part(i);
            }
        }
        return h;
    }

    private static void eightyJoins() {
        FlintHeap h = Made.broken(2, 1);
        for (int i = 0; i < 79; i++) {
            due("JOINED", h.join(0, 8), i);
            due("PARTED", h.part(i), true);
        }
        due("the 80th", h.join(0, 8), 79);
        due("it stands", h.joined(79, 4), NONE);
        due("PARTED", h.part(79), true);
        due("the 81st", h.join(0, 8), NONE);
        due("they may meet", h.meet(0, 8, 2), 1);
        FlintHeap all = Made.broken(40, 8);
        for (int i = 0; i < 80; i++) {
            due("80 that stand", all.join(16 * (i / 4) + i % 4, 16 * (i / 4) + 8 + i % 4), i);
        }
        due("all stand", all.count(1), 80);
        due("the 81st", all.join(4, 12), NONE);
    }

    private static void join(int a, int b) {
        refused("join(" + a + ", " + b + ")", Made::rich, NONE, h -> h.join(a, b));
    }

    private static void refusedJoins() {
        for (int face : new int[] {-1, 4, 10, 50, 56, 320, MIN, MAX}) {
            join(face, 49);
            join(3, face);
        }
        join(3, 3);
        join(0, 3);
        join(2, 9);
        join(48, 49);
        join(3, 17);
        join(17, 3);
        join(0, 8);
        join(8, 2);
        refused("the 81st JOIN", () -> eighty(false), NONE, h -> h.join(0, 8));
        refused("the 81st JOIN beside one that stands", () -> eighty(true), NONE, h -> h.join(1, 9));
        refused("a JOIN of FACES that are 1 too far", BoundsOfJoins::oneTooFar, NONE, h -> h.join(0, 8));
    }

    private static FlintHeap oneTooFar() {
        FlintHeap h = Made.pieces(2);
        flat(h, 0, BREAK, 0);
        faceOf(h, 1, BREAK, 3, 3, 3, 3, 3, 3, 3, 0);
        return h;
    }

    private static void parted() {
        FlintHeap h = Made.broken(3, 2);
        h.join(0, 8);
        h.join(9, 16);
        h.days(5);
        due("part(0)", h.part(0), true);
        due("the DAY", h.joined(0, 4), 5);
        due("the other one stands", h.joined(1, 4), NONE);
        due("the FACES are free", h.of(0, 1), NONE);
        due("the FACES are free", h.of(8, 1), NONE);
        due("the others are not", h.of(9, 1), 16);
        due("COBBLE of 0", h.look(0, 1), 0);
        due("COBBLE of 1", h.look(1, 1), 1);
        due("COBBLE of 2", h.look(2, 1), 1);
        FlintHeap last = eighty(true);
        due("the 80th", last.part(79), true);
        due("none stands", last.count(1), 0);
    }

    private static void notParted() {
        for (int join : new int[] {-1, 6, 80, MIN, MAX}) {
            denied("part(" + join + ")", Made::rich, h -> h.part(join));
        }
        denied("part of a PARTED one", Made::rich, h -> h.part(5));
        denied("part(0) of no JOIN", () -> Made.broken(2, 2), h -> h.part(0));
        denied("part(80) of 80", () -> eighty(true), h -> h.part(80));
        denied("part(79) of 80, PARTED", () -> eighty(false), h -> h.part(79));
        FlintHeap h = Made.broken(2, 1);
        h.join(0, 8);
        h.part(0);
        h.days(9);
        due("once more, later", h.part(0), false);
        due("the DAY stays", h.joined(0, 4), 0);
    }

    private static void facesAsTold() {
        FlintHeap h = Made.broken(40, 8);
        h.join(0, 319);
        h.join(318, 8);
        due("the first", h.joined(0, 0), 0);
        due("the second", h.joined(0, 1), 319);
        due("the greater one told first", h.joined(1, 0), 318);
        due("the lesser one told second", h.joined(1, 1), 8);
        h.part(0);
        due("of a PARTED one", h.joined(0, 0), 0);
        due("of a PARTED one", h.joined(0, 1), 319);
    }

    private static void daysOfJoins() {
        FlintHeap h = Made.broken(2, 2);
        h.join(0, 8);
        due("JOINED on the first DAY", h.joined(0, 3), 0);
        due("not PARTED", h.joined(0, 4), NONE);
        h.part(0);
        due("PARTED on the first DAY", h.joined(0, 4), 0);
        for (int i = 0; i < 9; i++) {
            h.days(100);
        }
        h.days(99);
        h.join(1, 9);
        h.part(1);
        due("JOINED on the last DAY", h.joined(1, 3), 999);
        due("PARTED on the last DAY", h.joined(1, 4), 999);
        due("the first stays", h.joined(0, 4), 0);
    }

    /** BREAKS of two PIECES with this TURN; the JOIN's number. */
    private static int joinWith(FlintHeap h, int a, int b, int turn) {
        return h.join(rippled(h, a, BREAK, 5, turn), rippled(h, b, BREAK, 5, 0));
    }

    private static void turnsOfPieces() {
        FlintHeap h = Made.pieces(5);
        due("a single one", h.look(4, 3), 0);
        joinWith(h, 4, 3, 6);
        due("of the least one", h.look(3, 3), 0);
        due("of the other", h.look(4, 3), 6);
        // 1 is found from 0 by the JOIN 2 ahead of the JOIN 3; 2 from 0, not from 1.
        joinWith(h, 1, 2, 1);
        joinWith(h, 0, 1, 2);
        joinWith(h, 0, 1, 3);
        joinWith(h, 2, 0, 7);
        due("0", h.look(0, 3), 0);
        due("1, by the JOIN with the least number", h.look(1, 3), 2);
        due("2, from 0", h.look(2, 3), 7);
        due("the JOIN 1 is CLOSED: 2 + 7 - 1", h.joined(1, 5), 0);
        due("the JOIN 3 is OPEN: 2 - 3", h.joined(3, 5), 1);
        h.part(2);
        due("1, by what is left", h.look(1, 3), 3);
        h.part(4);
        due("2, from 1: 1 - 3", h.look(2, 3), 6);
        turnsOfWhatIsLeft();
    }

    /** The least PIECE goes off a row of four, then the row falls apart. */
    private static void turnsOfWhatIsLeft() {
        FlintHeap h = Made.pieces(4);
        joinWith(h, 0, 1, 1);
        joinWith(h, 1, 2, 2);
        joinWith(h, 3, 2, 7);
        turnsAre(h, 0, 1, 1, 6);
        h.part(0);
        turnsAre(h, 0, 0, 2, 5);
        h.part(1);
        turnsAre(h, 0, 0, 0, 7);
        h.part(2);
        turnsAre(h, 0, 0, 0, 0);
    }

    private static void turnsAre(FlintHeap h, int... due) {
        for (int piece = 0; piece < due.length; piece++) {
            due("TURN of " + piece, h.look(piece, 3), due[piece]);
        }
    }

    private static void turnsGoRound() {
        for (int s = 0; s < 8; s++) {
            for (int r = 0; r < 8; r++) {
                FlintHeap h = Made.pieces(3);
                joinWith(h, 0, 1, s);
                joinWith(h, 2, 1, r);
                due("TURN s " + s, h.look(1, 3), s);
                due("TURN " + r + " - " + s, h.look(2, 3), (r - s + 8) % 8);
                due("no JOIN is OPEN", h.count(3), 0);
            }
        }
    }

    private static void closedAndOpen() {
        for (int s = 0; s < 8; s++) {
            for (int r = 0; r < 8; r++) {
                int u = 3;
                FlintHeap h = Made.pieces(3);
                joinWith(h, 0, 1, s);
                joinWith(h, 2, 0, u);
                joinWith(h, 1, 2, r);
                boolean open = (s + u - r + 8) % 8 != 0;
                due("OPEN of " + s + " + 3 - " + r, h.joined(2, 5), open ? 1 : 0);
                due("those by which they were found", h.joined(0, 5) + h.joined(1, 5), 0);
                due("OPEN JOINS of the COBBLE", h.cobble(2, 3), open ? 1 : 0);
                due("OPEN JOINS of all", h.count(3), open ? 1 : 0);
            }
        }
        firstJoinIsOpen();
    }

    /** The JOIN 0 hangs on 1 and 2 alone, which are found by the JOINS 1 and 2. */
    private static void firstJoinIsOpen() {
        for (int r = 0; r < 8; r++) {
            FlintHeap h = Made.pieces(3);
            joinWith(h, 1, 2, r);
            joinWith(h, 0, 1, 3);
            joinWith(h, 2, 0, 4);
            due("the JOIN 0 of 3 + 4 - " + r, h.joined(0, 5), r == 7 ? 0 : 1);
            due("OPEN JOINS of the COBBLE", h.cobble(2, 3), r == 7 ? 0 : 1);
            due("OPEN JOINS of all", h.count(3), r == 7 ? 0 : 1);
        }
    }

    private static void partedIsNotOpen() {
        FlintHeap h = Made.pieces(2);
        joinWith(h, 0, 1, 0);
        joinWith(h, 0, 1, 1);
        due("OPEN", h.joined(1, 5), 1);
        h.part(1);
        due("PARTED", h.joined(1, 5), 0);
        due("none is OPEN", h.count(3), 0);
        joinWith(h, 0, 1, 4);
        due("OPEN", h.joined(2, 5), 1);
        h.part(0);
        due("alone it is CLOSED", h.joined(2, 5), 0);
        due("PARTED", h.joined(0, 5), 0);
    }

    private static void rivals() {
        FlintHeap full = Made.broken(40, 8);
        full.join(0, 319);
        due("all but these two", full.joined(0, 6), 318);
        full.near(0);
        due("all but these two, GAP 0", full.joined(0, 6), 318);
        FlintHeap first = Made.broken(3, 1);
        first.join(8, 16);
        due("the first FACE of all", first.joined(0, 6), 1);
        FlintHeap none = Made.struck(1);
        due("no other FACE", none.joined(0, 6), 0);
        flat(none, 0, SKIN, 0);
        flat(none, 1, BREAK, 0);
        due("none that may meet", none.joined(0, 6), 0);
        flat(none, 1, SCAR, 0);
        due("a SCAR of the BELLY's own PIECE", none.joined(0, 6), 0);
        flat(none, 0, SCAR, 0);
        due("a SCAR that may meet the BELLY", none.joined(0, 6), 1);
        flat(none, 0, BELLY, 0);
        due("a BELLY of the SCAR's own PIECE", none.joined(0, 6), 1);
        flat(none, plain(none), BELLY, 0);
        due("a BELLY that may meet the SCAR", none.joined(0, 6), 2);
        faceOf(none, 0, SCAR, 1, 0, 0, 0, 0, 0, 0, 0);
        due("a SCAR 1 too far", none.joined(0, 6), 2);
        none.near(1);
        due("now it may", none.joined(0, 6), 3);
    }

    private static void noRivals() {
        FlintHeap h = Made.broken(3, 3);
        h.join(0, 8);
        due("RIVALS", h.joined(0, 6), 7);
        h.part(0);
        due("PARTED", h.joined(0, 6), 0);
        h.join(0, 8);
        due("PARTED, though they are JOINED again", h.joined(0, 6), 0);
        due("RIVALS of the new one", h.joined(1, 6), 7);
        read(h, "bar when 1;");
        due("none may meet now", h.joined(1, 6), 0);
    }

    private static void doubtNow() {
        FlintHeap h = Made.broken(2, 1);
        h.join(0, 8);
        due("no text", h.joined(0, 7), 0);
        read(h, "doubt 99 when 1;".repeat(24));
        due("the greatest", h.joined(0, 7), 24 * 99);
        read(h, "bar when 1; doubt 5 when 1; doubt 7 when colour = 9;");
        due("they may not meet", h.meet(0, 8, 3), 0);
        due("DOUBT all the same", h.joined(0, 7), 5);
        h.marks(1, 9, 0, 0, false, 0);
        due("as things are now", h.joined(0, 7), 12);
    }

    private static void joined(int join, int what) {
        refused("joined(" + join + ", " + what + ")", Made::rich, THROWN, h -> h.joined(join, what));
    }

    private static void noSuchJoin() {
        for (int join : new int[] {-1, 6, 80, MIN, MAX}) {
            joined(join, 0);
            joined(join, 6);
        }
        for (int what : new int[] {-1, 8, MIN, MAX}) {
            joined(0, what);
            joined(5, what);
        }
        refused("joined(0, 0) of no JOIN", () -> Made.broken(2, 2), THROWN, h -> h.joined(0, 0));
        refused("joined(80, 0) of 80", () -> eighty(true), THROWN, h -> h.joined(80, 0));
    }

    private static void daysUpToNow() {
        FlintHeap h = Made.broken(2, 1);
        due("DAY 0, NOW 0", h.asOf(1, 0), 1);
        due("DAY 1, NOW 0", h.asOf(1, 1), NONE);
        due("DAY -1", h.asOf(1, -1), NONE);
        h.join(0, 8);
        due("DAY 0, NOW 0", h.asOf(1, 0), 0);
        h.days(7);
        due("DAY 7, NOW 7", h.asOf(1, 7), 0);
        due("DAY 8, NOW 7", h.asOf(1, 8), NONE);
        due("DAY 0, NOW 7", h.asOf(1, 0), 0);
    }

    private static void onThatDayOrAhead() {
        FlintHeap h = Made.broken(2, 1);
        h.days(10);
        h.join(0, 8);
        h.days(10);
        h.part(0);
        h.days(10);
        h.join(0, 8);
        int[][] rows = {{0, 1}, {9, 1}, {10, 0}, {11, 0}, {19, 0}, {20, 1}, {21, 1}, {29, 1}, {30, 0}};
        for (int[] r : rows) {
            due("asOf(1, " + r[0] + ")", h.asOf(1, r[0]), r[1]);
            due("asOf(0, " + r[0] + ")", h.asOf(0, r[0]), 0);
        }
        h.part(1);
        due("JOINED and PARTED on one DAY", h.asOf(1, 30), 1);
    }

    private static void leastAndGreatestCobble() {
        FlintHeap h = Made.broken(40, 2);
        for (int piece = 0; piece < 40; piece++) {
            due("a single one", h.asOf(piece, 0), piece);
            due("a single one", h.look(piece, 1), piece);
        }
        h.days(1);
        for (int piece = 39; piece > 0; piece--) {
            h.join(8 * piece, 8 * piece - 7);
        }
        for (int piece = 0; piece < 40; piece++) {
            due("all 40", h.asOf(piece, 1), 0);
            due("all 40", h.look(piece, 1), 0);
            due("on the DAY ahead", h.asOf(piece, 0), piece);
        }
        h.part(19);
        due("the least of one half", h.look(19, 1), 0);
        due("the least of the other half", h.look(39, 1), 20);
    }

    private static void asOf(int piece, int day) {
        refused("asOf(" + piece + ", " + day + ")", Made::rich, NONE, h -> h.asOf(piece, day));
    }

    private static void noSuchDay() {
        for (int piece : new int[] {-1, 7, 40, MIN, MAX}) {
            asOf(piece, 0);
        }
        for (int day : new int[] {-1, 10, 1000, MIN, MAX}) {
            asOf(0, day);
        }
        due("NOW", Made.rich().asOf(0, 9), 0);
    }
}
